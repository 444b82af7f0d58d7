/-! X3_init -/
abbrev rm_X3_init : Room := { frames := 1, cells := 0, slots := 0, locals := 60 }
abbrev wn_X3_init : List Cond := .code yX3_init cX3_init 6 none :: wsC
noncomputable def fc_X3_init (n : Nat) (σ : CS) (x0 : Nat) (x1 : Int32) (x2 : Int32) (x3 : Int32) (x4 : Int32) (x5 : Int32) : Option ((Int32) × CS) := ck (pk σ x0 3) (sq (cp σ x0 0 x1) (fun σ1 => ck (pk σ1 x0 3) (sq (cp σ1 x0 1 x2) (fun σ3 => ck (pk σ3 x0 3) (sq (cp σ3 x0 2 x3) (fun σ5 => ck (pk σ5 x0 3) (sq (cp σ5 x0 3 x4) (fun σ7 => ck (pk σ7 x0 3) (sq (cp σ7 x0 4 x5) (fun σ9 => some (0, σ9)))))))))))
set_option maxRecDepth 100000 in
set_option maxHeartbeats 4000000 in
theorem tbc_X3_init_0 {p : Program} {l : Launch} {e : Env} {s : State} {m : MethodId} {args : Array Value} {below : List Frame} {meth : Method} {c : Code} {D : va_G} {A : Nat → Prop} {ad ao : Nat → Nat} {n0 : Nat} {cy : CY} {z : CZ} {r0 : Int32} {σ0 : CS} (hin : meth.name = "<init>") (hc : cxB RX3 wsC cX3_init 6 none p s m args meth c) (hV : cV D cy z A s) (had : ∀ j, j < n0 → ad j = ao j) {σ : CS} (hn0 : n0 ≤ σ.2.2.2.2.2) (n : Nat) (x0 : Nat) (x1 : Int32) (x2 : Int32) (x3 : Int32) (x4 : Int32) (x5 : Int32) {H : Heap} {locs : List Loc} {ls : Array Slot} (hB : cB D ad cy A s.heap σ H locs) (hl : lv_has ls 6 [(0, .ref (ad x0)), (1, .int x1), (2, .int x2), (3, .int x3), (4, .int x4), (5, .int x5)]) (hf : fc_X3_init n σ x0 x1 x2 x3 x4 x5 = some (r0, σ0)) : W p l e rm_X3_init s m args below meth c H locs 0 0 (MQ below (cQa D ao cy A (fun _ => none) n0 σ0) args s 0 0 A) (F0 m 0 ls []) := by
  obtain ⟨hx, hb, hml, hown, hts, hr, hlocks⟩ := id hc
  unfold fc_X3_init at hf
  refine lv_aload_n hx hb dX3_init_0 rfl (lv_at hl 0 rfl) ?_
  refine W.objInit hx hb hown (hts _ qc_151) (hts _ qc_1) (hts _ qc_2) rfl (by rw [hml]; exact hl.1) rfl dX3_init_1 (Nat.le_of_ble_eq_true rfl) (Nat.le_of_ble_eq_true rfl) ?_
  refine W.eq (g2 := F0 m 4 ls []) rfl ?_
  refine lv_aload_n hx hb dX3_init_4 rfl (lv_at hl 0 rfl) ?_
  refine lv_iload_n hx hb dX3_init_5 rfl (lv_at hl 1 rfl) ?_
  obtain ⟨k2, hf⟩ := ck_e hf
  refine rc_putFi (own := RX3) (ty := .int) hx hb hts inC_3 hown hV hB x0 (pk_s k2).2.1 (ceq_P k2) rfl 0 (Nat.le_of_ble_eq_true rfl) qf_X3_7 tyX3 tyX3_ok nmX3 (cst_P0 k2) rfl hin rfl pdc_3_0 rfl rfl (Nat.le_of_ble_eq_true rfl) dX3_init_6 (fun σ1 eσ1 H locs hB => ?_)
  have hf := sq_e hf σ1 eσ1
  have hn0 : n0 ≤ σ1.2.2.2.2.2 := by rw [eσ1]; exact hn0
  refine lv_aload_n hx hb dX3_init_9 rfl (lv_at hl 0 rfl) ?_
  refine lv_iload_n hx hb dX3_init_10 rfl (lv_at hl 2 rfl) ?_
  obtain ⟨k4, hf⟩ := ck_e hf
  refine rc_putFi (own := RX3) (ty := .int) hx hb hts inC_3 hown hV hB x0 (pk_s k4).2.1 (ceq_P k4) rfl 1 (Nat.le_of_ble_eq_true rfl) qf_X3_13 tyX3 tyX3_ok nmX3 (cst_P1 k4) rfl hin rfl pdc_3_1 rfl rfl (Nat.le_of_ble_eq_true rfl) dX3_init_11 (fun σ3 eσ3 H locs hB => ?_)
  have hf := sq_e hf σ3 eσ3
  have hn0 : n0 ≤ σ3.2.2.2.2.2 := by rw [eσ3]; exact hn0
  refine lv_aload_n hx hb dX3_init_14 rfl (lv_at hl 0 rfl) ?_
  refine lv_iload_n hx hb dX3_init_15 rfl (lv_at hl 3 rfl) ?_
  obtain ⟨k6, hf⟩ := ck_e hf
  refine rc_putFi (own := RX3) (ty := .int) hx hb hts inC_3 hown hV hB x0 (pk_s k6).2.1 (ceq_P k6) rfl 2 (Nat.le_of_ble_eq_true rfl) qf_X3_16 tyX3 tyX3_ok nmX3 (cst_P2 k6) rfl hin rfl pdc_3_2 rfl rfl (Nat.le_of_ble_eq_true rfl) dX3_init_16 (fun σ5 eσ5 H locs hB => ?_)
  have hf := sq_e hf σ5 eσ5
  have hn0 : n0 ≤ σ5.2.2.2.2.2 := by rw [eσ5]; exact hn0
  refine lv_aload_n hx hb dX3_init_19 rfl (lv_at hl 0 rfl) ?_
  refine lv_iload hx hb dX3_init_20 (lv_at hl 4 rfl) ?_
  obtain ⟨k8, hf⟩ := ck_e hf
  refine rc_putFi (own := RX3) (ty := .int) hx hb hts inC_3 hown hV hB x0 (pk_s k8).2.1 (ceq_P k8) rfl 3 (Nat.le_of_ble_eq_true rfl) qf_X3_19 tyX3 tyX3_ok nmX3 (cst_P3 k8) rfl hin rfl pdc_3_3 rfl rfl (Nat.le_of_ble_eq_true rfl) dX3_init_22 (fun σ7 eσ7 H locs hB => ?_)
  have hf := sq_e hf σ7 eσ7
  have hn0 : n0 ≤ σ7.2.2.2.2.2 := by rw [eσ7]; exact hn0
  refine lv_aload_n hx hb dX3_init_25 rfl (lv_at hl 0 rfl) ?_
  refine lv_iload hx hb dX3_init_26 (lv_at hl 5 rfl) ?_
  obtain ⟨k10, hf⟩ := ck_e hf
  refine rc_putFi (own := RX3) (ty := .int) hx hb hts inC_3 hown hV hB x0 (pk_s k10).2.1 (ceq_P k10) rfl 4 (Nat.le_of_ble_eq_true rfl) qf_X3_22 tyX3 tyX3_ok nmX3 (cst_P4 k10) rfl hin rfl pdc_3_4 rfl rfl (Nat.le_of_ble_eq_true rfl) dX3_init_28 (fun σ9 eσ9 H locs hB => ?_)
  have hf := sq_e hf σ9 eσ9
  have hn0 : n0 ≤ σ9.2.2.2.2.2 := by rw [eσ9]; exact hn0
  obtain ⟨rfl, rfl⟩ := so_e hf
  refine W.widen (k := 0) (n := 0) (Nat.le_of_ble_eq_true rfl) (Nat.le_of_ble_eq_true rfl) ?_
  exact rc_vretA hx hb hr hlocks had hB dX3_init_31
theorem cc_X3_init (l : Launch) (D : va_G) (ad : Nat → Nat) (cy : CY) (z : CZ) (n : Nat) (σ : CS) (x0 : Nat) (x1 : Int32) (x2 : Int32) (x3 : Int32) (x4 : Int32) (x5 : Int32) {r0 : Int32} {σ0 : CS} (hf : fc_X3_init n σ x0 x1 x2 x3 x4 x5 = some (r0, σ0)) : cMa l yX3_init wn_X3_init rm_X3_init D ad cy z [.ref (ad x0), .int x1, .int x2, .int x3, .int x4, .int x5] σ (fun _ => none) σ0 0 0 :=
  rc_metA (ret := none) (by decide) rfl (Nat.le_of_ble_eq_true rfl) (fun p e s m below meth c A ls hc hin hV hB hl => tbc_X3_init_0 hin hc hV (fun _ _ => rfl) (Nat.le_refl _) n x0 x1 x2 x3 x4 x5 hB hl hf)
/-! X1_init -/
abbrev rm_X1_init : Room := { frames := 1, cells := 1, slots := 20, locals := 60 }
abbrev wn_X1_init : List Cond := .code yX1_init cX1_init 5 none :: wsC
noncomputable def fc_X1_init (n : Nat) (σ : CS) (x0 : Nat) (x1 : Int32) (x2 : Int32) (x3 : Int32) (x4 : Nat) : Option ((Int32) × CS) := ck (pk σ x0 1) (sq (cp σ x0 0 x1) (fun σ1 => ck (pk σ1 x0 1) (sq (cp σ1 x0 1 x2) (fun σ3 => ck (pk σ3 x0 1) (sq (cp σ3 x0 2 x3) (fun σ5 => ck (pk σ5 x0 1) (sq (cpp σ5 x0 3 (some x4)) (fun σ7 => ckp (cwf σ7) (ck (decide (x0 < σ7.2.2.2.2.2)) (ck (decide (x4 < σ7.2.2.2.2.2)) (sq (σ7.2.2.2.2.2) (fun q10 => sq (cnw σ7 9 20 (fun _ => 0) (fun _ => none)) (fun σ11 => ck (pk σ11 x0 1) (sq (cpp σ11 x0 4 (some q10)) (fun σ15 => some (0, σ15))))))))))))))))
set_option maxRecDepth 100000 in
set_option maxHeartbeats 4000000 in
theorem tbc_X1_init_0 {p : Program} {l : Launch} {e : Env} {s : State} {m : MethodId} {args : Array Value} {below : List Frame} {meth : Method} {c : Code} {D : va_G} {A : Nat → Prop} {ad ao : Nat → Nat} {n0 : Nat} {cy : CY} {z : CZ} {r0 : Int32} {σ0 : CS} (hin : meth.name = "<init>") (hc : cxB RX1 wsC cX1_init 5 none p s m args meth c) (hV : cV D cy z A s) (had : ∀ j, j < n0 → ad j = ao j) {σ : CS} (hn0 : n0 ≤ σ.2.2.2.2.2) (n : Nat) (x0 : Nat) (x1 : Int32) (x2 : Int32) (x3 : Int32) (x4 : Nat) {H : Heap} {locs : List Loc} {ls : Array Slot} (hB : cB D ad cy A s.heap σ H locs) (hl : lv_has ls 5 [(0, .ref (ad x0)), (1, .int x1), (2, .int x2), (3, .int x3), (4, .ref (ad x4))]) (hf : fc_X1_init n σ x0 x1 x2 x3 x4 = some (r0, σ0)) : W p l e rm_X1_init s m args below meth c H locs 0 0 (MQ below (cQa D ao cy A (fun _ => none) n0 σ0) args s 1 20 A) (F0 m 0 ls []) := by
  obtain ⟨hx, hb, hml, hown, hts, hr, hlocks⟩ := id hc
  unfold fc_X1_init at hf
  refine lv_aload_n hx hb dX1_init_0 rfl (lv_at hl 0 rfl) ?_
  refine W.objInit hx hb hown (hts _ qc_60) (hts _ qc_1) (hts _ qc_2) rfl (by rw [hml]; exact hl.1) rfl dX1_init_1 (Nat.le_of_ble_eq_true rfl) (Nat.le_of_ble_eq_true rfl) ?_
  refine W.eq (g2 := F0 m 4 ls []) rfl ?_
  refine lv_aload_n hx hb dX1_init_4 rfl (lv_at hl 0 rfl) ?_
  refine lv_iload_n hx hb dX1_init_5 rfl (lv_at hl 1 rfl) ?_
  obtain ⟨k2, hf⟩ := ck_e hf
  refine rc_putFi (own := RX1) (ty := .int) hx hb hts inC_1 hown hV hB x0 (pk_s k2).2.1 (ceq_L k2) rfl 0 (Nat.le_of_ble_eq_true rfl) qf_X1_9 tyX1 tyX1_ok nmX1 (cst_L0 k2) rfl hin rfl pdc_1_0 rfl rfl (Nat.le_of_ble_eq_true rfl) dX1_init_6 (fun σ1 eσ1 H locs hB => ?_)
  have hf := sq_e hf σ1 eσ1
  have hn0 : n0 ≤ σ1.2.2.2.2.2 := by rw [eσ1]; exact hn0
  refine lv_aload_n hx hb dX1_init_9 rfl (lv_at hl 0 rfl) ?_
  refine lv_iload_n hx hb dX1_init_10 rfl (lv_at hl 2 rfl) ?_
  obtain ⟨k4, hf⟩ := ck_e hf
  refine rc_putFi (own := RX1) (ty := .int) hx hb hts inC_1 hown hV hB x0 (pk_s k4).2.1 (ceq_L k4) rfl 1 (Nat.le_of_ble_eq_true rfl) qf_X1_15 tyX1 tyX1_ok nmX1 (cst_L1 k4) rfl hin rfl pdc_1_1 rfl rfl (Nat.le_of_ble_eq_true rfl) dX1_init_11 (fun σ3 eσ3 H locs hB => ?_)
  have hf := sq_e hf σ3 eσ3
  have hn0 : n0 ≤ σ3.2.2.2.2.2 := by rw [eσ3]; exact hn0
  refine lv_aload_n hx hb dX1_init_14 rfl (lv_at hl 0 rfl) ?_
  refine lv_iload_n hx hb dX1_init_15 rfl (lv_at hl 3 rfl) ?_
  obtain ⟨k6, hf⟩ := ck_e hf
  refine rc_putFi (own := RX1) (ty := .int) hx hb hts inC_1 hown hV hB x0 (pk_s k6).2.1 (ceq_L k6) rfl 2 (Nat.le_of_ble_eq_true rfl) qf_X1_18 tyX1 tyX1_ok nmX1 (cst_L2 k6) rfl hin rfl pdc_1_2 rfl rfl (Nat.le_of_ble_eq_true rfl) dX1_init_16 (fun σ5 eσ5 H locs hB => ?_)
  have hf := sq_e hf σ5 eσ5
  have hn0 : n0 ≤ σ5.2.2.2.2.2 := by rw [eσ5]; exact hn0
  refine lv_aload_n hx hb dX1_init_19 rfl (lv_at hl 0 rfl) ?_
  refine lv_aload hx hb dX1_init_20 (lv_at hl 4 rfl) ?_
  obtain ⟨k8, hf⟩ := ck_e hf
  refine rc_putFr (own := RX1) (v := some x4) (ty := .array .int) hx hb hts inC_1 hown hV hB x0 (pk_s k8).2.1 (ceq_L k8) rfl 3 (Nat.le_of_ble_eq_true rfl) qf_X1_21 tyX1 tyX1_ok nmX1 (cst_L3 k8) rfl hin rfl pdc_1_3 rfl rfl (Nat.le_of_ble_eq_true rfl) dX1_init_22 (fun σ7 eσ7 H locs hB => ?_)
  have hf := sq_e hf σ7 eσ7
  have hn0 : n0 ≤ σ7.2.2.2.2.2 := by rw [eσ7]; exact hn0
  refine lv_aload_n hx hb dX1_init_25 rfl (lv_at hl 0 rfl) ?_
  refine lv_bipush (v := 20) hx hb dX1_init_26 (by decide) ?_
  obtain ⟨k12, hf⟩ := ckp_e hf
  obtain ⟨k13, hf⟩ := ck_e hf
  obtain ⟨k14, hf⟩ := ck_e hf
  have hBo := hB
  refine rc_newA hx hb (hts _ qc_7) hV hB k12 (by decide) (N := 20) (by decide) (Nat.le_of_ble_eq_true rfl) (Nat.le_of_ble_eq_true rfl) (Nat.le_of_ble_eq_true rfl) dX1_init_28 (fun ad9 had9 q10 eq10 σ11 eσ11 H hB => ?_)
  have hf := sq_e hf q10 eq10
  have hf := sq_e hf σ11 eσ11
  have hl : lv_has ls 5 [(0, .ref (ad9 x0)), (1, .int x1), (2, .int x2), (3, .int x3), (4, .ref (ad9 x4))] := by rw [had9 x0 (of_decide_eq_true k13), had9 x4 (of_decide_eq_true k14)]; exact hl
  refine W.eq (g2 := F0 m 30 ls [.ref (ad9 q10), .ref (ad9 x0)]) (by first | (rw [had9 x0 (of_decide_eq_true k13)]; done) | (rw [had9 x0 (of_decide_eq_true k13)]; rfl)) ?_
  have had : ∀ j, j < n0 → ad9 j = ao j := fun j h => (had9 j (Nat.lt_of_lt_of_le h hn0)).trans (had j h)
  have hn0 : n0 ≤ σ11.2.2.2.2.2 := by rw [eσ11]; exact Nat.le_trans hn0 (Nat.le_succ _)
  refine W.widen (k := 1) (n := 20) (Nat.le_of_ble_eq_true rfl) (Nat.le_of_ble_eq_true rfl) ?_
  obtain ⟨k16, hf⟩ := ck_e hf
  refine rc_putFr (own := RX1) (v := some q10) (ty := .array .int) hx hb hts inC_1 hown hV hB x0 (pk_s k16).2.1 (ceq_L k16) rfl 4 (Nat.le_of_ble_eq_true rfl) qf_X1_25 tyX1 tyX1_ok nmX1 (cst_L4 k16) rfl hin rfl pdc_1_4 rfl rfl (Nat.le_of_ble_eq_true rfl) dX1_init_30 (fun σ15 eσ15 H locs hB => ?_)
  have hf := sq_e hf σ15 eσ15
  have hn0 : n0 ≤ σ15.2.2.2.2.2 := by rw [eσ15]; exact hn0
  obtain ⟨rfl, rfl⟩ := so_e hf
  refine W.widen (k := 1) (n := 20) (Nat.le_of_ble_eq_true rfl) (Nat.le_of_ble_eq_true rfl) ?_
  exact rc_vretA hx hb hr hlocks had hB dX1_init_33
theorem cc_X1_init (l : Launch) (D : va_G) (ad : Nat → Nat) (cy : CY) (z : CZ) (n : Nat) (σ : CS) (x0 : Nat) (x1 : Int32) (x2 : Int32) (x3 : Int32) (x4 : Nat) {r0 : Int32} {σ0 : CS} (hf : fc_X1_init n σ x0 x1 x2 x3 x4 = some (r0, σ0)) : cMa l yX1_init wn_X1_init rm_X1_init D ad cy z [.ref (ad x0), .int x1, .int x2, .int x3, .ref (ad x4)] σ (fun _ => none) σ0 1 20 :=
  rc_metA (ret := none) (by decide) rfl (Nat.le_of_ble_eq_true rfl) (fun p e s m below meth c A ls hc hin hV hB hl => tbc_X1_init_0 hin hc hV (fun _ _ => rfl) (Nat.le_refl _) n x0 x1 x2 x3 x4 hB hl hf)
/-! J7_copyOf_59c91 -/
abbrev rm_J7_copyOf_59c91 : Room := { frames := 1, cells := 1, slots := 20, locals := 60 }
abbrev wn_J7_copyOf_59c91 : List Cond := .code yJ7_copyOf_59c91 cJ7_copyOf_59c91 3 (some (.array .int)) :: wsC
noncomputable def fc_J7_copyOf_59c91 (n : Nat) (σ : CS) (x1 : Int32) : Option ((Option Nat) × CS) := if (x1 = (Int32.ofNat 20)) then (none) else (ckp (cwf σ) (ck (decide (¬ (x1 < 0))) (ck (decide (Int32.toNatClampNeg x1 ≤ 20)) (sq (σ.2.2.2.2.2) (fun q3 => sq (cnw σ 9 (Int32.toNatClampNeg x1) (fun _ => 0) (fun _ => none)) (fun σ4 => sq (if x1 < (Int32.ofNat 20) then x1 else (Int32.ofNat 20) : Int32) (fun y8 => ck (pk σ4 q3 9) (ck (decide (¬ (y8 < 0))) (ck (decide (Int32.toNatClampNeg 0 + Int32.toNatClampNeg y8 ≤ 20)) (ck (decide (Int32.toNatClampNeg 0 + Int32.toNatClampNeg y8 ≤ (σ4.2.2.2.2.1 q3))) (sq (cpr σ4 q3 (va_cpy (σ4.1 3) (σ4.1 q3) (Int32.toNatClampNeg 0) (Int32.toNatClampNeg 0) (Int32.toNatClampNeg y8))) (fun σ9 => some ((some q3), σ9)))))))))))))
set_option maxRecDepth 100000 in
set_option maxHeartbeats 4000000 in
theorem tbc_J7_copyOf_59c91_0 {p : Program} {l : Launch} {e : Env} {s : State} {m : MethodId} {args : Array Value} {below : List Frame} {meth : Method} {c : Code} {D : va_G} {A : Nat → Prop} {ad ao : Nat → Nat} {n0 : Nat} {cy : CY} {z : CZ} {r0 : Option Nat} {σ0 : CS} (hc : cxB RJ7 wsC cJ7_copyOf_59c91 3 (some (.array .int)) p s m args meth c) (hV : cV D cy z A s) (had : ∀ j, j < n0 → ad j = ao j) {σ : CS} (hn0 : n0 ≤ σ.2.2.2.2.2) (n : Nat) (x1 : Int32) {H : Heap} {locs : List Loc} {ls : Array Slot} (hB : cB D ad cy A s.heap σ H locs) (hl : lv_has ls 3 [(0, .ref (ad 3)), (1, .int x1)]) (hf : fc_J7_copyOf_59c91 n σ x1 = some (r0, σ0)) : W p l e rm_J7_copyOf_59c91 s m args below meth c H locs 0 0 (MQ below (cQa D ao cy A (fun a => some (va_rf (Option.map a r0))) n0 σ0) args s 1 20 A) (F0 m 0 ls []) := by
  obtain ⟨hx, hb, hml, hown, hts, hr, hlocks⟩ := id hc
  unfold fc_J7_copyOf_59c91 at hf
  refine lv_iload_n hx hb dJ7_copyOf_59c91_0 rfl (lv_at hl 1 rfl) ?_
  refine lv_aload_n hx hb dJ7_copyOf_59c91_1 rfl (lv_at hl 0 rfl) ?_
  refine rc_alen hx hb hV hB 3 (c34 rfl hB) (ceq_3 _ _ _) rfl dJ7_copyOf_59c91_2 ?_
  refine lv_icmp_ne (tgt := 14) hx hb dJ7_copyOf_59c91_3 (by decide) (fun c1 => ?_) (fun c1 => ?_)
  · have hf := it_f hf c1
    refine lv_iload_n hx hb dJ7_copyOf_59c91_14 rfl (lv_at hl 1 rfl) ?_
    obtain ⟨k5, hf⟩ := ckp_e hf
    obtain ⟨k6, hf⟩ := ck_e hf
    obtain ⟨k7, hf⟩ := ck_e hf
    have hBo := hB
    refine rc_newA hx hb (hts _ qc_7) hV hB k5 (of_decide_eq_true k6) (N := (Int32.toNatClampNeg x1)) rfl (Nat.le_trans (Nat.mul_le_mul_right _ (of_decide_eq_true k7)) (Nat.le_of_ble_eq_true rfl)) (Nat.le_of_ble_eq_true rfl) (Nat.le_trans (Nat.add_le_add_left (of_decide_eq_true k7) _) (Nat.le_of_ble_eq_true rfl)) dJ7_copyOf_59c91_15 (fun ad2 had2 q3 eq3 σ4 eσ4 H hB => ?_)
    have hf := sq_e hf q3 eq3
    have hf := sq_e hf σ4 eσ4
    have hl : lv_has ls 3 [(0, .ref (ad2 3)), (1, .int x1)] := by rw [had2 3 (c34 rfl hBo)]; exact hl
    refine W.eq (g2 := F0 m 17 ls [.ref (ad2 q3)]) (by rfl) ?_
    have had : ∀ j, j < n0 → ad2 j = ao j := fun j h => (had2 j (Nat.lt_of_lt_of_le h hn0)).trans (had j h)
    have hn0 : n0 ≤ σ4.2.2.2.2.2 := by rw [eσ4]; exact Nat.le_trans hn0 (Nat.le_succ _)
    refine W.widen (k := 1) (n := 20) (Nat.le_of_ble_eq_true rfl) (Nat.le_trans (Nat.add_le_add_left (of_decide_eq_true k7) _) (Nat.le_of_ble_eq_true rfl)) ?_
    refine lv_astore_n (lv' := [(2, .ref (ad2 q3)), (0, .ref (ad2 3)), (1, .int x1)]) hx hb dJ7_copyOf_59c91_17 rfl hl (by decide) rfl (fun ls hl => ?_)
    refine lv_aload_n hx hb dJ7_copyOf_59c91_18 rfl (lv_at hl 1 rfl) ?_
    refine lv_iconst (v := 0) hx hb dJ7_copyOf_59c91_19 (by decide) ?_
    refine lv_aload_n hx hb dJ7_copyOf_59c91_20 rfl (lv_at hl 0 rfl) ?_
    refine lv_iconst (v := 0) hx hb dJ7_copyOf_59c91_21 (by decide) ?_
    refine lv_aload_n hx hb dJ7_copyOf_59c91_22 rfl (lv_at hl 1 rfl) ?_
    refine rc_alen hx hb hV hB 3 (c34 rfl hB) (ceq_3 _ _ _) rfl dJ7_copyOf_59c91_23 ?_
    refine lv_iload_n hx hb dJ7_copyOf_59c91_24 rfl (lv_at hl 2 rfl) ?_
    refine va_mmin hx hb (hml.trans hl.1.symm) hown (hts _ qc_344) (hts _ qc_68) (hts _ qc_69) (hts _ qc_70) (Nat.le_of_ble_eq_true rfl) (Nat.le_of_ble_eq_true rfl) (Nat.le_of_ble_eq_true rfl) (Nat.le_of_ble_eq_true rfl) dJ7_copyOf_59c91_25 ?_
    refine lv_topi (fun y8 ey8 => ?_)
    have hf := sq_e hf y8 ey8
    obtain ⟨k10, hf⟩ := ck_e hf
    obtain ⟨k11, hf⟩ := ck_e hf
    obtain ⟨k12, hf⟩ := ck_e hf
    obtain ⟨k13, hf⟩ := ck_e hf
    refine rc_copy hx hb (hml.trans hl.1.symm) hown (hts _ qc_345) (hts _ qc_35) (hts _ qc_36) (hts _ qc_37) hV hB 3 q3 (c34 rfl hB) (pk_s k10).2.1 (ceq_3 _ _ _) (ceq_A k10) (fun _ => cst_A k10) (by decide) (by decide) (of_decide_eq_true k11) (of_decide_eq_true k12) (of_decide_eq_true k13) (Nat.le_of_ble_eq_true rfl) (by decide +kernel) dJ7_copyOf_59c91_28 (fun σ9 eσ9 H locs hB => ?_)
    have hf := sq_e hf σ9 eσ9
    have hn0 : n0 ≤ σ9.2.2.2.2.2 := by rw [eσ9]; exact hn0
    refine lv_aload_n hx hb dJ7_copyOf_59c91_31 rfl (lv_at hl 0 rfl) ?_
    obtain ⟨rfl, rfl⟩ := so_e hf
    refine W.widen (k := 1) (n := 20) (Nat.le_of_ble_eq_true rfl) (Nat.le_of_ble_eq_true rfl) ?_
    exact rc_aretA (o := (some q3)) hx hb hr hlocks (Or.inr ⟨_, rfl⟩) had hB dJ7_copyOf_59c91_32
  · have hf := it_t hf c1
    refine lv_aload_n hx hb dJ7_copyOf_59c91_6 rfl (lv_at hl 0 rfl) ?_
    cases hf
theorem cc_J7_copyOf_59c91 (l : Launch) (D : va_G) (ad : Nat → Nat) (cy : CY) (z : CZ) (n : Nat) (σ : CS) (x1 : Int32) {r0 : Option Nat} {σ0 : CS} (hf : fc_J7_copyOf_59c91 n σ x1 = some (r0, σ0)) : cMa l yJ7_copyOf_59c91 wn_J7_copyOf_59c91 rm_J7_copyOf_59c91 D ad cy z [.ref (ad 3), .int x1] σ (fun a => some (va_rf (Option.map a r0))) σ0 1 20 :=
  rc_metA (ret := (some (.array .int))) (by decide) rfl (Nat.le_of_ble_eq_true rfl) (fun p e s m below meth c A ls hc hin hV hB hl => tbc_J7_copyOf_59c91_0 hc hV (fun _ _ => rfl) (Nat.le_refl _) n x1 hB hl hf)
/-! X6_readPlate -/
theorem kwc_X6_24 {R : Room} {s : State} {args : Array Value} (hts : ∀ w ∈ wsC, w.before args s = true) (hR : rm_X6_begin.frames + 1 ≤ R.frames ∧ 8 + (1 + 11) + rm_X6_begin.locals ≤ R.locals) : CallW R s args RX6 RX6 24 yX6_begin cX6_begin 1 none wn_X6_begin rm_X6_begin 0 0 0 := cwV 0 hts (gC_v qc_214 qc_215 qc_216 qc_194 qc_185) rfl rfl rfl (by decide +kernel) hR
theorem kwc_X6_27 {R : Room} {s : State} {args : Array Value} (hts : ∀ w ∈ wsC, w.before args s = true) (hR : rm_X6_readPart.frames + 1 ≤ R.frames ∧ 8 + (4 + 11) + rm_X6_readPart.locals ≤ R.locals) : CallW R s args RX6 RX6 27 yX6_readPart cX6_readPart 4 (some .int) wn_X6_readPart rm_X6_readPart 0 0 3 := cwV 3 hts (gC_v qc_217 qc_218 qc_219 qc_194 qc_209) rfl rfl rfl (by decide +kernel) hR
theorem kwc_X6_35 {R : Room} {s : State} {args : Array Value} (hts : ∀ w ∈ wsC, w.before args s = true) (hR : rm_X6_expectEnd.frames + 1 ≤ R.frames ∧ 8 + (1 + 11) + rm_X6_expectEnd.locals ≤ R.locals) : CallW R s args RX6 RX6 35 yX6_expectEnd cX6_expectEnd 1 none wn_X6_expectEnd rm_X6_expectEnd 0 0 0 := cwV 0 hts (gC_v qc_220 qc_221 qc_222 qc_194 qc_210) rfl rfl rfl (by decide +kernel) hR
abbrev rm_X6_readPlate : Room := { frames := 4, cells := 1, slots := 5, locals := 89 }
abbrev wn_X6_readPlate : List Cond := .code yX6_readPlate cX6_readPlate 6 (some (.object "PlateRings$Plate")) :: wsC
noncomputable def bc_X6_readPlate_94 (n : Nat) (σ : CS) (x1 : Int32) (x2 : Int32) (x3 : Int32) (x4 : Int32) (t0 : Int32) : Option ((Option Nat) × CS) := bd (fc_X6_expectEnd n σ) (fun _ σ2 => ck (decide (σ.2.2.2.2.2 ≤ σ2.2.2.2.2.2)) (if ((σ2.1 1 3) = (-1)) then (ckp (cwf σ2) (sq (σ2.2.2.2.2.2) (fun q6 => sq (cnw σ2 3 0 (fun _ => 0) (fun _ => none)) (fun σ7 => bd (fc_X3_init n σ7 q6 x1 x2 x3 x4 t0) (fun _ σ11 => ck (decide (σ7.2.2.2.2.2 ≤ σ11.2.2.2.2.2)) (ck (decide (q6 < σ7.2.2.2.2.2)) (some ((some q6), σ11)))))))) else (some (none, σ2))))
set_option maxRecDepth 100000 in
set_option maxHeartbeats 4000000 in
theorem tbc_X6_readPlate_94 {p : Program} {l : Launch} {e : Env} {s : State} {m : MethodId} {args : Array Value} {below : List Frame} {meth : Method} {c : Code} {D : va_G} {A : Nat → Prop} {ad ao : Nat → Nat} {n0 : Nat} {cy : CY} {z : CZ} {r0 : Option Nat} {σ0 : CS} (hc : cxB RX6 wsC cX6_readPlate 6 (some (.object "PlateRings$Plate")) p s m args meth c) (hV : cV D cy z A s) (had : ∀ j, j < n0 → ad j = ao j) {σ : CS} (hn0 : n0 ≤ σ.2.2.2.2.2) (n : Nat) (x1 : Int32) (x2 : Int32) (x3 : Int32) (x4 : Int32) (t0 : Int32) {H : Heap} {locs : List Loc} {ls : Array Slot} (hB : cB D ad cy A s.heap σ H locs) (hl : lv_has ls 6 [(0, .ref (ad 1)), (1, .int x1), (2, .int x2), (3, .int x3), (4, .int x4)]) (hf : bc_X6_readPlate_94 n σ x1 x2 x3 x4 t0 = some (r0, σ0)) : W p l e rm_X6_readPlate s m args below meth c H locs 0 0 (MQ below (cQa D ao cy A (fun a => some (va_rf (Option.map a r0))) n0 σ0) args s 1 5 A) (F0 m 94 ls [.int t0]) := by
  obtain ⟨hx, hb, hml, hown, hts, hr, hlocks⟩ := id hc
  unfold bc_X6_readPlate_94 at hf
  refine lv_istore (lv' := [(5, .int t0), (0, .ref (ad 1)), (1, .int x1), (2, .int x2), (3, .int x3), (4, .int x4)]) hx hb dX6_readPlate_94 hl (by decide) rfl (fun ls hl => ?_)
  refine lv_aload_n hx hb dX6_readPlate_96 rfl (lv_at hl 1 rfl) ?_
  obtain ⟨r1, σ2, hkr1, hf⟩ := bd_e hf
  refine rc_callV (own := RX6) (av := []) (rest := []) (rv := none) hx hb hml hown hts hl.1 hV hB 1 (c34 rfl hB) (ceq_1 _ _ _) rfl (cc_X6_expectEnd l D ad cy z n σ hkr1) (kwc_X6_35  hts ⟨Nat.le_of_ble_eq_true rfl, Nat.le_of_ble_eq_true rfl⟩) rfl rfl (lv_room (Nat.le_of_ble_eq_true rfl)) dX6_readPlate_97 (Nat.le_of_ble_eq_true rfl) (Nat.le_of_ble_eq_true rfl) (fun H locs hB => ?_)
  refine W.eq (g2 := F0 m 100 ls []) rfl ?_
  obtain ⟨k3, hf⟩ := ck_e hf
  have hn0 : n0 ≤ σ2.2.2.2.2.2 := Nat.le_trans hn0 (of_decide_eq_true k3)
  refine lv_aload_n hx hb dX6_readPlate_100 rfl (lv_at hl 1 rfl) ?_
  refine rc_get (own := RX6) hx hb hts inC_6 hown hV hB 1 (c34 rfl hB) (ceq_1 _ _ _) rfl 3 (Nat.le_of_ble_eq_true rfl) qf_X6_38 rfl dX6_readPlate_101 ?_
  refine lv_iconst (v := (-1)) hx hb dX6_readPlate_104 (by decide) ?_
  refine lv_icmp_ne (tgt := 125) hx hb dX6_readPlate_105 (by decide) (fun c4 => ?_) (fun c4 => ?_)
  · have hf := it_f hf c4
    refine lv_null hx hb dX6_readPlate_125 ?_
    obtain ⟨rfl, rfl⟩ := so_e hf
    refine W.widen (k := 1) (n := 5) (Nat.le_of_ble_eq_true rfl) (Nat.le_of_ble_eq_true rfl) ?_
    exact rc_aretA (o := none) hx hb hr hlocks (Or.inl ⟨_, rfl⟩) had hB dX6_readPlate_126
  · have hf := it_t hf c4
    obtain ⟨k8, hf⟩ := ckp_e hf
    have hBo := hB
    refine rc_newP (own := RX6) hx hb hts inC_3 tyX3 tyX3_ok hown (hts _ qc_211) (hts _ qc_212) (hts _ qc_213) hV hB k8 (Nat.le_of_ble_eq_true rfl) (Nat.le_of_ble_eq_true rfl) dX6_readPlate_108 (fun ad5 had5 q6 eq6 σ7 eσ7 H hB => ?_)
    have hf := sq_e hf q6 eq6
    have hf := sq_e hf σ7 eσ7
    have hl : lv_has ls 6 [(5, .int t0), (0, .ref (ad5 1)), (1, .int x1), (2, .int x2), (3, .int x3), (4, .int x4)] := by rw [had5 1 (c34 rfl hBo)]; exact hl
    refine W.eq (g2 := F0 m 111 ls [.ref (ad5 q6)]) (by rfl) ?_
    have had : ∀ j, j < n0 → ad5 j = ao j := fun j h => (had5 j (Nat.lt_of_lt_of_le h hn0)).trans (had j h)
    have hn0 : n0 ≤ σ7.2.2.2.2.2 := by rw [eσ7]; exact Nat.le_trans hn0 (Nat.le_succ _)
    refine W.widen (k := 1) (n := 5) (Nat.le_of_ble_eq_true rfl) (Nat.le_of_ble_eq_true rfl) ?_
    refine lv_dup hx hb dX6_readPlate_111 rfl ?_
    refine lv_iload_n hx hb dX6_readPlate_112 rfl (lv_at hl 2 rfl) ?_
    refine lv_iload_n hx hb dX6_readPlate_113 rfl (lv_at hl 3 rfl) ?_
    refine lv_iload_n hx hb dX6_readPlate_114 rfl (lv_at hl 4 rfl) ?_
    refine lv_iload hx hb dX6_readPlate_115 (lv_at hl 5 rfl) ?_
    refine lv_iload hx hb dX6_readPlate_117 (lv_at hl 0 rfl) ?_
    obtain ⟨r10, σ11, hkr10, hf⟩ := bd_e hf
    obtain ⟨k13, hf⟩ := ck_e hf
    obtain ⟨k12, hf⟩ := ck_e hf
    have hBo := hB
    refine rc_callIA (own := RX6) (av := [.int x1, .int x2, .int x3, .int x4, .int t0]) (rest := [.ref (ad5 q6)]) (rv := (fun _ => none)) hx hb hml hown hts hl.1 hV hB q6 (cc_X3_init l D ad5 cy z n σ7 q6 x1 x2 x3 x4 t0 hkr10) (cwI 5 hts (gC_c qc_225) rfl rfl rfl (hts _ qc_213) (hts _ qc_223) (hts _ qc_224) rfl (by decide +kernel) ⟨Nat.le_of_ble_eq_true rfl, Nat.le_of_ble_eq_true rfl⟩) rfl rfl (lv_room (Nat.le_of_ble_eq_true rfl)) dX6_readPlate_119 (Nat.le_of_ble_eq_true rfl) (Nat.le_of_ble_eq_true rfl) (fun ad9 had9 H locs hB => ?_)
    have hl : lv_has ls 6 [(5, .int t0), (0, .ref (ad9 1)), (1, .int x1), (2, .int x2), (3, .int x3), (4, .int x4)] := by rw [had9 1 (c34 rfl hBo)]; exact hl
    refine W.eq (g2 := F0 m 122 ls [.ref (ad9 q6)]) (by first | (rw [had9 q6 (of_decide_eq_true k12)]; done) | (rw [had9 q6 (of_decide_eq_true k12)]; rfl)) ?_
    have had : ∀ j, j < n0 → ad9 j = ao j := fun j h => (had9 j (Nat.lt_of_lt_of_le h hn0)).trans (had j h)
    have hn0 : n0 ≤ σ11.2.2.2.2.2 := Nat.le_trans hn0 (of_decide_eq_true k13)
    refine W.widen (k := 1) (n := 5) (Nat.le_of_ble_eq_true rfl) (Nat.le_of_ble_eq_true rfl) ?_
    refine lv_goto (tgt := 126) hx hb dX6_readPlate_122 (by decide) ?_
    obtain ⟨rfl, rfl⟩ := so_e hf
    refine W.widen (k := 1) (n := 5) (Nat.le_of_ble_eq_true rfl) (Nat.le_of_ble_eq_true rfl) ?_
    exact rc_aretA (o := (some q6)) hx hb hr hlocks (Or.inl ⟨_, rfl⟩) had hB dX6_readPlate_126
noncomputable def bc_X6_readPlate_70 (n : Nat) (σ : CS) (x1 : Int32) (x2 : Int32) (x3 : Int32) (t0 : Int32) : Option ((Option Nat) × CS) := bd (fc_X6_next n σ) (fun r1 σ2 => ck (decide (σ.2.2.2.2.2 ≤ σ2.2.2.2.2.2)) (if (r1 = 98) then (bd (fc_X6_readPart n σ2 98 0 9) (fun r5 σ6 => ck (decide (σ2.2.2.2.2.2 ≤ σ6.2.2.2.2.2)) (bc_X6_readPlate_94 n σ6 x1 x2 x3 t0 r5))) else (bc_X6_readPlate_94 n σ2 x1 x2 x3 t0 0)))
set_option maxRecDepth 100000 in
set_option maxHeartbeats 4000000 in
theorem tbc_X6_readPlate_70 {p : Program} {l : Launch} {e : Env} {s : State} {m : MethodId} {args : Array Value} {below : List Frame} {meth : Method} {c : Code} {D : va_G} {A : Nat → Prop} {ad ao : Nat → Nat} {n0 : Nat} {cy : CY} {z : CZ} {r0 : Option Nat} {σ0 : CS} (hc : cxB RX6 wsC cX6_readPlate 6 (some (.object "PlateRings$Plate")) p s m args meth c) (hV : cV D cy z A s) (had : ∀ j, j < n0 → ad j = ao j) {σ : CS} (hn0 : n0 ≤ σ.2.2.2.2.2) (n : Nat) (x1 : Int32) (x2 : Int32) (x3 : Int32) (t0 : Int32) {H : Heap} {locs : List Loc} {ls : Array Slot} (hB : cB D ad cy A s.heap σ H locs) (hl : lv_has ls 6 [(0, .ref (ad 1)), (1, .int x1), (2, .int x2), (3, .int x3)]) (hf : bc_X6_readPlate_70 n σ x1 x2 x3 t0 = some (r0, σ0)) : W p l e rm_X6_readPlate s m args below meth c H locs 0 0 (MQ below (cQa D ao cy A (fun a => some (va_rf (Option.map a r0))) n0 σ0) args s 1 5 A) (F0 m 70 ls [.int t0]) := by
  obtain ⟨hx, hb, hml, hown, hts, hr, hlocks⟩ := id hc
  unfold bc_X6_readPlate_70 at hf
  refine lv_istore (lv' := [(4, .int t0), (0, .ref (ad 1)), (1, .int x1), (2, .int x2), (3, .int x3)]) hx hb dX6_readPlate_70 hl (by decide) rfl (fun ls hl => ?_)
  refine lv_aload_n hx hb dX6_readPlate_72 rfl (lv_at hl 1 rfl) ?_
  obtain ⟨r1, σ2, hkr1, hf⟩ := bd_e hf
  refine rc_callV (own := RX6) (av := []) (rest := []) (rv := (some (.int r1))) hx hb hml hown hts hl.1 hV hB 1 (c34 rfl hB) (ceq_1 _ _ _) rfl (cc_X6_next l D ad cy z n σ hkr1) (kwc_X6_31  hts ⟨Nat.le_of_ble_eq_true rfl, Nat.le_of_ble_eq_true rfl⟩) rfl rfl (lv_room (Nat.le_of_ble_eq_true rfl)) dX6_readPlate_73 (Nat.le_of_ble_eq_true rfl) (Nat.le_of_ble_eq_true rfl) (fun H locs hB => ?_)
  refine W.eq (g2 := F0 m 76 ls [.int r1]) rfl ?_
  obtain ⟨k3, hf⟩ := ck_e hf
  have hn0 : n0 ≤ σ2.2.2.2.2.2 := Nat.le_trans hn0 (of_decide_eq_true k3)
  refine lv_bipush (v := 98) hx hb dX6_readPlate_76 (by decide) ?_
  refine lv_icmp_ne (tgt := 93) hx hb dX6_readPlate_78 (by decide) (fun c4 => ?_) (fun c4 => ?_)
  · have hf := it_f hf c4
    refine lv_iconst (v := 0) hx hb dX6_readPlate_93 (by decide) ?_
    exact tbc_X6_readPlate_94 hc hV had hn0 n x1 x2 x3 t0 0 hB (lv_sub hl [1, 2, 3, 4, 0] rfl) hf
  · have hf := it_t hf c4
    refine lv_aload_n hx hb dX6_readPlate_81 rfl (lv_at hl 1 rfl) ?_
    refine lv_bipush (v := 98) hx hb dX6_readPlate_82 (by decide) ?_
    refine lv_iconst (v := 0) hx hb dX6_readPlate_84 (by decide) ?_
    refine lv_bipush (v := 9) hx hb dX6_readPlate_85 (by decide) ?_
    obtain ⟨r5, σ6, hkr5, hf⟩ := bd_e hf
    refine rc_callV (own := RX6) (av := [.int 98, .int 0, .int 9]) (rest := []) (rv := (some (.int r5))) hx hb hml hown hts hl.1 hV hB 1 (c34 rfl hB) (ceq_1 _ _ _) rfl (cc_X6_readPart l D ad cy z n σ2 98 0 9 hkr5) (kwc_X6_27  hts ⟨Nat.le_of_ble_eq_true rfl, Nat.le_of_ble_eq_true rfl⟩) rfl rfl (lv_room (Nat.le_of_ble_eq_true rfl)) dX6_readPlate_87 (Nat.le_of_ble_eq_true rfl) (Nat.le_of_ble_eq_true rfl) (fun H locs hB => ?_)
    refine W.eq (g2 := F0 m 90 ls [.int r5]) rfl ?_
    obtain ⟨k7, hf⟩ := ck_e hf
    have hn0 : n0 ≤ σ6.2.2.2.2.2 := Nat.le_trans hn0 (of_decide_eq_true k7)
    refine lv_goto (tgt := 94) hx hb dX6_readPlate_90 (by decide) ?_
    exact tbc_X6_readPlate_94 hc hV had hn0 n x1 x2 x3 t0 r5 hB (lv_sub hl [1, 2, 3, 4, 0] rfl) hf
noncomputable def bc_X6_readPlate_47 (n : Nat) (σ : CS) (x1 : Int32) (x2 : Int32) (t0 : Int32) : Option ((Option Nat) × CS) := bd (fc_X6_next n σ) (fun r1 σ2 => ck (decide (σ.2.2.2.2.2 ≤ σ2.2.2.2.2.2)) (if (r1 = 104) then (bd (fc_X6_readPart n σ2 104 0 9) (fun r5 σ6 => ck (decide (σ2.2.2.2.2.2 ≤ σ6.2.2.2.2.2)) (bc_X6_readPlate_70 n σ6 x1 x2 t0 r5))) else (bc_X6_readPlate_70 n σ2 x1 x2 t0 0)))
set_option maxRecDepth 100000 in
set_option maxHeartbeats 4000000 in
theorem tbc_X6_readPlate_47 {p : Program} {l : Launch} {e : Env} {s : State} {m : MethodId} {args : Array Value} {below : List Frame} {meth : Method} {c : Code} {D : va_G} {A : Nat → Prop} {ad ao : Nat → Nat} {n0 : Nat} {cy : CY} {z : CZ} {r0 : Option Nat} {σ0 : CS} (hc : cxB RX6 wsC cX6_readPlate 6 (some (.object "PlateRings$Plate")) p s m args meth c) (hV : cV D cy z A s) (had : ∀ j, j < n0 → ad j = ao j) {σ : CS} (hn0 : n0 ≤ σ.2.2.2.2.2) (n : Nat) (x1 : Int32) (x2 : Int32) (t0 : Int32) {H : Heap} {locs : List Loc} {ls : Array Slot} (hB : cB D ad cy A s.heap σ H locs) (hl : lv_has ls 6 [(0, .ref (ad 1)), (1, .int x1), (2, .int x2)]) (hf : bc_X6_readPlate_47 n σ x1 x2 t0 = some (r0, σ0)) : W p l e rm_X6_readPlate s m args below meth c H locs 0 0 (MQ below (cQa D ao cy A (fun a => some (va_rf (Option.map a r0))) n0 σ0) args s 1 5 A) (F0 m 47 ls [.int t0]) := by
  obtain ⟨hx, hb, hml, hown, hts, hr, hlocks⟩ := id hc
  unfold bc_X6_readPlate_47 at hf
  refine lv_istore_n (lv' := [(3, .int t0), (0, .ref (ad 1)), (1, .int x1), (2, .int x2)]) hx hb dX6_readPlate_47 rfl hl (by decide) rfl (fun ls hl => ?_)
  refine lv_aload_n hx hb dX6_readPlate_48 rfl (lv_at hl 1 rfl) ?_
  obtain ⟨r1, σ2, hkr1, hf⟩ := bd_e hf
  refine rc_callV (own := RX6) (av := []) (rest := []) (rv := (some (.int r1))) hx hb hml hown hts hl.1 hV hB 1 (c34 rfl hB) (ceq_1 _ _ _) rfl (cc_X6_next l D ad cy z n σ hkr1) (kwc_X6_31  hts ⟨Nat.le_of_ble_eq_true rfl, Nat.le_of_ble_eq_true rfl⟩) rfl rfl (lv_room (Nat.le_of_ble_eq_true rfl)) dX6_readPlate_49 (Nat.le_of_ble_eq_true rfl) (Nat.le_of_ble_eq_true rfl) (fun H locs hB => ?_)
  refine W.eq (g2 := F0 m 52 ls [.int r1]) rfl ?_
  obtain ⟨k3, hf⟩ := ck_e hf
  have hn0 : n0 ≤ σ2.2.2.2.2.2 := Nat.le_trans hn0 (of_decide_eq_true k3)
  refine lv_bipush (v := 104) hx hb dX6_readPlate_52 (by decide) ?_
  refine lv_icmp_ne (tgt := 69) hx hb dX6_readPlate_54 (by decide) (fun c4 => ?_) (fun c4 => ?_)
  · have hf := it_f hf c4
    refine lv_iconst (v := 0) hx hb dX6_readPlate_69 (by decide) ?_
    exact tbc_X6_readPlate_70 hc hV had hn0 n x1 x2 t0 0 hB (lv_sub hl [1, 2, 3, 0] rfl) hf
  · have hf := it_t hf c4
    refine lv_aload_n hx hb dX6_readPlate_57 rfl (lv_at hl 1 rfl) ?_
    refine lv_bipush (v := 104) hx hb dX6_readPlate_58 (by decide) ?_
    refine lv_iconst (v := 0) hx hb dX6_readPlate_60 (by decide) ?_
    refine lv_bipush (v := 9) hx hb dX6_readPlate_61 (by decide) ?_
    obtain ⟨r5, σ6, hkr5, hf⟩ := bd_e hf
    refine rc_callV (own := RX6) (av := [.int 104, .int 0, .int 9]) (rest := []) (rv := (some (.int r5))) hx hb hml hown hts hl.1 hV hB 1 (c34 rfl hB) (ceq_1 _ _ _) rfl (cc_X6_readPart l D ad cy z n σ2 104 0 9 hkr5) (kwc_X6_27  hts ⟨Nat.le_of_ble_eq_true rfl, Nat.le_of_ble_eq_true rfl⟩) rfl rfl (lv_room (Nat.le_of_ble_eq_true rfl)) dX6_readPlate_63 (Nat.le_of_ble_eq_true rfl) (Nat.le_of_ble_eq_true rfl) (fun H locs hB => ?_)
    refine W.eq (g2 := F0 m 66 ls [.int r5]) rfl ?_
    obtain ⟨k7, hf⟩ := ck_e hf
    have hn0 : n0 ≤ σ6.2.2.2.2.2 := Nat.le_trans hn0 (of_decide_eq_true k7)
    refine lv_goto (tgt := 70) hx hb dX6_readPlate_66 (by decide) ?_
    exact tbc_X6_readPlate_70 hc hV had hn0 n x1 x2 t0 r5 hB (lv_sub hl [1, 2, 3, 0] rfl) hf
noncomputable def fc_X6_readPlate (n : Nat) (σ : CS) : Option ((Option Nat) × CS) := bd (fc_X6_begin n σ) (fun _ σ2 => ck (decide (σ.2.2.2.2.2 ≤ σ2.2.2.2.2.2)) (bd (fc_X6_readPart n σ2 119 1 999) (fun r4 σ5 => ck (decide (σ2.2.2.2.2.2 ≤ σ5.2.2.2.2.2)) (bd (fc_X6_readPart n σ5 100 1 99) (fun r7 σ8 => ck (decide (σ5.2.2.2.2.2 ≤ σ8.2.2.2.2.2)) (bd (fc_X6_next n σ8) (fun r10 σ11 => ck (decide (σ8.2.2.2.2.2 ≤ σ11.2.2.2.2.2)) (if (r10 = 101) then (bd (fc_X6_readPart n σ11 101 0 9) (fun r14 σ15 => ck (decide (σ11.2.2.2.2.2 ≤ σ15.2.2.2.2.2)) (bc_X6_readPlate_47 n σ15 r4 r7 r14))) else (bc_X6_readPlate_47 n σ11 r4 r7 0)))))))))
set_option maxRecDepth 100000 in
set_option maxHeartbeats 4000000 in
theorem tbc_X6_readPlate_0 {p : Program} {l : Launch} {e : Env} {s : State} {m : MethodId} {args : Array Value} {below : List Frame} {meth : Method} {c : Code} {D : va_G} {A : Nat → Prop} {ad ao : Nat → Nat} {n0 : Nat} {cy : CY} {z : CZ} {r0 : Option Nat} {σ0 : CS} (hc : cxB RX6 wsC cX6_readPlate 6 (some (.object "PlateRings$Plate")) p s m args meth c) (hV : cV D cy z A s) (had : ∀ j, j < n0 → ad j = ao j) {σ : CS} (hn0 : n0 ≤ σ.2.2.2.2.2) (n : Nat) {H : Heap} {locs : List Loc} {ls : Array Slot} (hB : cB D ad cy A s.heap σ H locs) (hl : lv_has ls 6 [(0, .ref (ad 1))]) (hf : fc_X6_readPlate n σ = some (r0, σ0)) : W p l e rm_X6_readPlate s m args below meth c H locs 0 0 (MQ below (cQa D ao cy A (fun a => some (va_rf (Option.map a r0))) n0 σ0) args s 1 5 A) (F0 m 0 ls []) := by
  obtain ⟨hx, hb, hml, hown, hts, hr, hlocks⟩ := id hc
  unfold fc_X6_readPlate at hf
  refine lv_aload_n hx hb dX6_readPlate_0 rfl (lv_at hl 0 rfl) ?_
  obtain ⟨r1, σ2, hkr1, hf⟩ := bd_e hf
  refine rc_callV (own := RX6) (av := []) (rest := []) (rv := none) hx hb hml hown hts hl.1 hV hB 1 (c34 rfl hB) (ceq_1 _ _ _) rfl (cc_X6_begin l D ad cy z n σ hkr1) (kwc_X6_24  hts ⟨Nat.le_of_ble_eq_true rfl, Nat.le_of_ble_eq_true rfl⟩) rfl rfl (lv_room (Nat.le_of_ble_eq_true rfl)) dX6_readPlate_1 (Nat.le_of_ble_eq_true rfl) (Nat.le_of_ble_eq_true rfl) (fun H locs hB => ?_)
  refine W.eq (g2 := F0 m 4 ls []) rfl ?_
  obtain ⟨k3, hf⟩ := ck_e hf
  have hn0 : n0 ≤ σ2.2.2.2.2.2 := Nat.le_trans hn0 (of_decide_eq_true k3)
  refine lv_aload_n hx hb dX6_readPlate_4 rfl (lv_at hl 0 rfl) ?_
  refine lv_bipush (v := 119) hx hb dX6_readPlate_5 (by decide) ?_
  refine lv_iconst (v := 1) hx hb dX6_readPlate_7 (by decide) ?_
  refine lv_sipush (v := 999) hx hb dX6_readPlate_8 (by decide) ?_
  obtain ⟨r4, σ5, hkr4, hf⟩ := bd_e hf
  refine rc_callV (own := RX6) (av := [.int 119, .int 1, .int 999]) (rest := []) (rv := (some (.int r4))) hx hb hml hown hts hl.1 hV hB 1 (c34 rfl hB) (ceq_1 _ _ _) rfl (cc_X6_readPart l D ad cy z n σ2 119 1 999 hkr4) (kwc_X6_27  hts ⟨Nat.le_of_ble_eq_true rfl, Nat.le_of_ble_eq_true rfl⟩) rfl rfl (lv_room (Nat.le_of_ble_eq_true rfl)) dX6_readPlate_11 (Nat.le_of_ble_eq_true rfl) (Nat.le_of_ble_eq_true rfl) (fun H locs hB => ?_)
  refine W.eq (g2 := F0 m 14 ls [.int r4]) rfl ?_
  obtain ⟨k6, hf⟩ := ck_e hf
  have hn0 : n0 ≤ σ5.2.2.2.2.2 := Nat.le_trans hn0 (of_decide_eq_true k6)
  refine lv_istore_n (lv' := [(1, .int r4), (0, .ref (ad 1))]) hx hb dX6_readPlate_14 rfl hl (by decide) rfl (fun ls hl => ?_)
  refine lv_aload_n hx hb dX6_readPlate_15 rfl (lv_at hl 1 rfl) ?_
  refine lv_bipush (v := 100) hx hb dX6_readPlate_16 (by decide) ?_
  refine lv_iconst (v := 1) hx hb dX6_readPlate_18 (by decide) ?_
  refine lv_bipush (v := 99) hx hb dX6_readPlate_19 (by decide) ?_
  obtain ⟨r7, σ8, hkr7, hf⟩ := bd_e hf
  refine rc_callV (own := RX6) (av := [.int 100, .int 1, .int 99]) (rest := []) (rv := (some (.int r7))) hx hb hml hown hts hl.1 hV hB 1 (c34 rfl hB) (ceq_1 _ _ _) rfl (cc_X6_readPart l D ad cy z n σ5 100 1 99 hkr7) (kwc_X6_27  hts ⟨Nat.le_of_ble_eq_true rfl, Nat.le_of_ble_eq_true rfl⟩) rfl rfl (lv_room (Nat.le_of_ble_eq_true rfl)) dX6_readPlate_21 (Nat.le_of_ble_eq_true rfl) (Nat.le_of_ble_eq_true rfl) (fun H locs hB => ?_)
  refine W.eq (g2 := F0 m 24 ls [.int r7]) rfl ?_
  obtain ⟨k9, hf⟩ := ck_e hf
  have hn0 : n0 ≤ σ8.2.2.2.2.2 := Nat.le_trans hn0 (of_decide_eq_true k9)
  refine lv_istore_n (lv' := [(2, .int r7), (1, .int r4), (0, .ref (ad 1))]) hx hb dX6_readPlate_24 rfl hl (by decide) rfl (fun ls hl => ?_)
  refine lv_aload_n hx hb dX6_readPlate_25 rfl (lv_at hl 2 rfl) ?_
  obtain ⟨r10, σ11, hkr10, hf⟩ := bd_e hf
  refine rc_callV (own := RX6) (av := []) (rest := []) (rv := (some (.int r10))) hx hb hml hown hts hl.1 hV hB 1 (c34 rfl hB) (ceq_1 _ _ _) rfl (cc_X6_next l D ad cy z n σ8 hkr10) (kwc_X6_31  hts ⟨Nat.le_of_ble_eq_true rfl, Nat.le_of_ble_eq_true rfl⟩) rfl rfl (lv_room (Nat.le_of_ble_eq_true rfl)) dX6_readPlate_26 (Nat.le_of_ble_eq_true rfl) (Nat.le_of_ble_eq_true rfl) (fun H locs hB => ?_)
  refine W.eq (g2 := F0 m 29 ls [.int r10]) rfl ?_
  obtain ⟨k12, hf⟩ := ck_e hf
  have hn0 : n0 ≤ σ11.2.2.2.2.2 := Nat.le_trans hn0 (of_decide_eq_true k12)
  refine lv_bipush (v := 101) hx hb dX6_readPlate_29 (by decide) ?_
  refine lv_icmp_ne (tgt := 46) hx hb dX6_readPlate_31 (by decide) (fun c13 => ?_) (fun c13 => ?_)
  · have hf := it_f hf c13
    refine lv_iconst (v := 0) hx hb dX6_readPlate_46 (by decide) ?_
    exact tbc_X6_readPlate_47 hc hV had hn0 n r4 r7 0 hB (lv_sub hl [2, 1, 0] rfl) hf
  · have hf := it_t hf c13
    refine lv_aload_n hx hb dX6_readPlate_34 rfl (lv_at hl 2 rfl) ?_
    refine lv_bipush (v := 101) hx hb dX6_readPlate_35 (by decide) ?_
    refine lv_iconst (v := 0) hx hb dX6_readPlate_37 (by decide) ?_
    refine lv_bipush (v := 9) hx hb dX6_readPlate_38 (by decide) ?_
    obtain ⟨r14, σ15, hkr14, hf⟩ := bd_e hf
    refine rc_callV (own := RX6) (av := [.int 101, .int 0, .int 9]) (rest := []) (rv := (some (.int r14))) hx hb hml hown hts hl.1 hV hB 1 (c34 rfl hB) (ceq_1 _ _ _) rfl (cc_X6_readPart l D ad cy z n σ11 101 0 9 hkr14) (kwc_X6_27  hts ⟨Nat.le_of_ble_eq_true rfl, Nat.le_of_ble_eq_true rfl⟩) rfl rfl (lv_room (Nat.le_of_ble_eq_true rfl)) dX6_readPlate_40 (Nat.le_of_ble_eq_true rfl) (Nat.le_of_ble_eq_true rfl) (fun H locs hB => ?_)
    refine W.eq (g2 := F0 m 43 ls [.int r14]) rfl ?_
    obtain ⟨k16, hf⟩ := ck_e hf
    have hn0 : n0 ≤ σ15.2.2.2.2.2 := Nat.le_trans hn0 (of_decide_eq_true k16)
    refine lv_goto (tgt := 47) hx hb dX6_readPlate_43 (by decide) ?_
    exact tbc_X6_readPlate_47 hc hV had hn0 n r4 r7 r14 hB (lv_sub hl [2, 1, 0] rfl) hf
theorem cc_X6_readPlate (l : Launch) (D : va_G) (ad : Nat → Nat) (cy : CY) (z : CZ) (n : Nat) (σ : CS) {r0 : Option Nat} {σ0 : CS} (hf : fc_X6_readPlate n σ = some (r0, σ0)) : cMa l yX6_readPlate wn_X6_readPlate rm_X6_readPlate D ad cy z [.ref (ad 1)] σ (fun a => some (va_rf (Option.map a r0))) σ0 1 5 :=
  rc_metA (ret := (some (.object "PlateRings$Plate"))) (by decide) rfl (Nat.le_of_ble_eq_true rfl) (fun p e s m below meth c A ls hc hin hV hB hl => tbc_X6_readPlate_0 hc hV (fun _ _ => rfl) (Nat.le_refl _) n hB hl hf)
/-! X6_readLaw -/
abbrev rm_X6_readLaw : Room := { frames := 45, cells := 1, slots := 20, locals := 2240 }
abbrev wn_X6_readLaw : List Cond := .code yX6_readLaw cX6_readLaw 1 (some (.array .int)) :: wsC
noncomputable def fc_X6_readLaw (n : Nat) (σ : CS) : Option ((Option Nat) × CS) := bd (fc_X6_begin n σ) (fun _ σ2 => ck (decide (σ.2.2.2.2.2 ≤ σ2.2.2.2.2.2)) (sq (cp σ2 1 5 0) (fun σ4 => bd (fc_X6_readSum 8 n σ4 0) (fun _ σ6 => ck (decide (σ4.2.2.2.2.2 ≤ σ6.2.2.2.2.2)) (bd (fc_X6_expectEnd n σ6) (fun _ σ9 => ck (decide (σ6.2.2.2.2.2 ≤ σ9.2.2.2.2.2)) (if ((σ9.1 1 3) = (-1)) then (bd (fc_J7_copyOf_59c91 n σ9 (σ9.1 1 5)) (fun r13 σ14 => ck (decide (σ9.2.2.2.2.2 ≤ σ14.2.2.2.2.2)) (some (r13, σ14)))) else (some (none, σ9)))))))))
set_option maxRecDepth 100000 in
set_option maxHeartbeats 4000000 in
theorem tbc_X6_readLaw_0 {p : Program} {l : Launch} {e : Env} {s : State} {m : MethodId} {args : Array Value} {below : List Frame} {meth : Method} {c : Code} {D : va_G} {A : Nat → Prop} {ad ao : Nat → Nat} {n0 : Nat} {cy : CY} {z : CZ} {r0 : Option Nat} {σ0 : CS} (hc : cxB RX6 wsC cX6_readLaw 1 (some (.array .int)) p s m args meth c) (hV : cV D cy z A s) (had : ∀ j, j < n0 → ad j = ao j) {σ : CS} (hn0 : n0 ≤ σ.2.2.2.2.2) (n : Nat) {H : Heap} {locs : List Loc} {ls : Array Slot} (hB : cB D ad cy A s.heap σ H locs) (hl : lv_has ls 1 [(0, .ref (ad 1))]) (hf : fc_X6_readLaw n σ = some (r0, σ0)) : W p l e rm_X6_readLaw s m args below meth c H locs 0 0 (MQ below (cQa D ao cy A (fun a => some (va_rf (Option.map a r0))) n0 σ0) args s 1 20 A) (F0 m 0 ls []) := by
  obtain ⟨hx, hb, hml, hown, hts, hr, hlocks⟩ := id hc
  unfold fc_X6_readLaw at hf
  refine lv_aload_n hx hb dX6_readLaw_0 rfl (lv_at hl 0 rfl) ?_
  obtain ⟨r1, σ2, hkr1, hf⟩ := bd_e hf
  refine rc_callV (own := RX6) (av := []) (rest := []) (rv := none) hx hb hml hown hts hl.1 hV hB 1 (c34 rfl hB) (ceq_1 _ _ _) rfl (cc_X6_begin l D ad cy z n σ hkr1) (kwc_X6_24  hts ⟨Nat.le_of_ble_eq_true rfl, Nat.le_of_ble_eq_true rfl⟩) rfl rfl (lv_room (Nat.le_of_ble_eq_true rfl)) dX6_readLaw_1 (Nat.le_of_ble_eq_true rfl) (Nat.le_of_ble_eq_true rfl) (fun H locs hB => ?_)
  refine W.eq (g2 := F0 m 4 ls []) rfl ?_
  obtain ⟨k3, hf⟩ := ck_e hf
  have hn0 : n0 ≤ σ2.2.2.2.2.2 := Nat.le_trans hn0 (of_decide_eq_true k3)
  refine lv_aload_n hx hb dX6_readLaw_4 rfl (lv_at hl 0 rfl) ?_
  refine lv_iconst (v := 0) hx hb dX6_readLaw_5 (by decide) ?_
  refine rc_puti (own := RX6) (ty := .int) hx hb hts inC_6 hown hV hB 1 (c34 rfl hB) (ceq_1 _ _ _) rfl 5 (Nat.le_of_ble_eq_true rfl) qf_X6_46 tyX6 tyX6_ok nmX6 (cst_1_5 _ _ _ _) rfl pdc_6_5 rfl rfl (Nat.le_of_ble_eq_true rfl) dX6_readLaw_6 (fun σ4 eσ4 H locs hB => ?_)
  have hf := sq_e hf σ4 eσ4
  have hn0 : n0 ≤ σ4.2.2.2.2.2 := by rw [eσ4]; exact hn0
  refine lv_aload_n hx hb dX6_readLaw_9 rfl (lv_at hl 0 rfl) ?_
  refine lv_iconst (v := 0) hx hb dX6_readLaw_10 (by decide) ?_
  obtain ⟨r5, σ6, hkr5, hf⟩ := bd_e hf
  refine rc_callV (own := RX6) (av := [.int 0]) (rest := []) (rv := none) hx hb hml hown hts hl.1 hV hB 1 (c34 rfl hB) (ceq_1 _ _ _) rfl (cc_X6_readSum 8 l D ad cy z n σ4 0 _ _ hkr5) (kwc_X6_49 (kd := 8)  hts ⟨Nat.le_of_ble_eq_true rfl, Nat.le_of_ble_eq_true rfl⟩) rfl rfl (lv_room (Nat.le_of_ble_eq_true rfl)) dX6_readLaw_11 (Nat.le_of_ble_eq_true rfl) (Nat.le_of_ble_eq_true rfl) (fun H locs hB => ?_)
  refine W.eq (g2 := F0 m 14 ls []) rfl ?_
  obtain ⟨k7, hf⟩ := ck_e hf
  have hn0 : n0 ≤ σ6.2.2.2.2.2 := Nat.le_trans hn0 (of_decide_eq_true k7)
  refine lv_aload_n hx hb dX6_readLaw_14 rfl (lv_at hl 0 rfl) ?_
  obtain ⟨r8, σ9, hkr8, hf⟩ := bd_e hf
  refine rc_callV (own := RX6) (av := []) (rest := []) (rv := none) hx hb hml hown hts hl.1 hV hB 1 (c34 rfl hB) (ceq_1 _ _ _) rfl (cc_X6_expectEnd l D ad cy z n σ6 hkr8) (kwc_X6_35  hts ⟨Nat.le_of_ble_eq_true rfl, Nat.le_of_ble_eq_true rfl⟩) rfl rfl (lv_room (Nat.le_of_ble_eq_true rfl)) dX6_readLaw_15 (Nat.le_of_ble_eq_true rfl) (Nat.le_of_ble_eq_true rfl) (fun H locs hB => ?_)
  refine W.eq (g2 := F0 m 18 ls []) rfl ?_
  obtain ⟨k10, hf⟩ := ck_e hf
  have hn0 : n0 ≤ σ9.2.2.2.2.2 := Nat.le_trans hn0 (of_decide_eq_true k10)
  refine lv_aload_n hx hb dX6_readLaw_18 rfl (lv_at hl 0 rfl) ?_
  refine rc_get (own := RX6) hx hb hts inC_6 hown hV hB 1 (c34 rfl hB) (ceq_1 _ _ _) rfl 3 (Nat.le_of_ble_eq_true rfl) qf_X6_38 rfl dX6_readLaw_19 ?_
  refine lv_iconst (v := (-1)) hx hb dX6_readLaw_22 (by decide) ?_
  refine lv_icmp_ne (tgt := 40) hx hb dX6_readLaw_23 (by decide) (fun c11 => ?_) (fun c11 => ?_)
  · have hf := it_f hf c11
    refine lv_null hx hb dX6_readLaw_40 ?_
    obtain ⟨rfl, rfl⟩ := so_e hf
    refine W.widen (k := 1) (n := 20) (Nat.le_of_ble_eq_true rfl) (Nat.le_of_ble_eq_true rfl) ?_
    exact rc_aretA (o := none) hx hb hr hlocks (Or.inr ⟨_, rfl⟩) had hB dX6_readLaw_41
  · have hf := it_t hf c11
    refine lv_aload_n hx hb dX6_readLaw_26 rfl (lv_at hl 0 rfl) ?_
    refine rc_get (own := RX6) hx hb hts inC_6 hown hV hB 1 (c34 rfl hB) (ceq_1 _ _ _) rfl 1 (Nat.le_of_ble_eq_true rfl) qf_X6_15 rfl dX6_readLaw_27 ?_
    refine lv_aload_n hx hb dX6_readLaw_30 rfl (lv_at hl 0 rfl) ?_
    refine rc_get (own := RX6) hx hb hts inC_6 hown hV hB 1 (c34 rfl hB) (ceq_1 _ _ _) rfl 5 (Nat.le_of_ble_eq_true rfl) qf_X6_46 rfl dX6_readLaw_31 ?_
    obtain ⟨r13, σ14, hkr13, hf⟩ := bd_e hf
    obtain ⟨k15, hf⟩ := ck_e hf
    have hBo := hB
    refine rc_callSA (own := RX6) (av := [.ref (ad 3), .int (σ9.1 1 5)]) (rest := []) (rv := (fun a => some (va_rf (Option.map a r13)))) hx hb hml hown hts hl.1 hV hB (cc_J7_copyOf_59c91 l D ad cy z n σ9 (σ9.1 1 5) hkr13) (va_cwS 2 hts (gC_s qc_335 qc_336 qc_165 qc_337) rfl rfl rfl (by decide +kernel) ⟨Nat.le_of_ble_eq_true rfl, Nat.le_of_ble_eq_true rfl⟩) rfl rfl (lv_room (Nat.le_of_ble_eq_true rfl)) dX6_readLaw_34 (Nat.le_of_ble_eq_true rfl) (Nat.le_of_ble_eq_true rfl) (fun ad12 had12 H locs hB => ?_)
    have hl : lv_has ls 1 [(0, .ref (ad12 1))] := by rw [had12 1 (c34 rfl hBo)]; exact hl
    refine W.eq (g2 := F0 m 37 ls [va_rf (Option.map ad12 r13)]) (by rfl) ?_
    have had : ∀ j, j < n0 → ad12 j = ao j := fun j h => (had12 j (Nat.lt_of_lt_of_le h hn0)).trans (had j h)
    have hn0 : n0 ≤ σ14.2.2.2.2.2 := Nat.le_trans hn0 (of_decide_eq_true k15)
    refine W.widen (k := 1) (n := 20) (Nat.le_of_ble_eq_true rfl) (Nat.le_of_ble_eq_true rfl) ?_
    refine lv_goto (tgt := 41) hx hb dX6_readLaw_37 (by decide) ?_
    obtain ⟨rfl, rfl⟩ := so_e hf
    refine W.widen (k := 1) (n := 20) (Nat.le_of_ble_eq_true rfl) (Nat.le_of_ble_eq_true rfl) ?_
    exact rc_aretA (o := r13) hx hb hr hlocks (Or.inr ⟨_, rfl⟩) had hB dX6_readLaw_41
theorem cc_X6_readLaw (l : Launch) (D : va_G) (ad : Nat → Nat) (cy : CY) (z : CZ) (n : Nat) (σ : CS) {r0 : Option Nat} {σ0 : CS} (hf : fc_X6_readLaw n σ = some (r0, σ0)) : cMa l yX6_readLaw wn_X6_readLaw rm_X6_readLaw D ad cy z [.ref (ad 1)] σ (fun a => some (va_rf (Option.map a r0))) σ0 1 20 :=
  rc_metA (ret := (some (.array .int))) (by decide) rfl (Nat.le_of_ble_eq_true rfl) (fun p e s m below meth c A ls hc hin hV hB hl => tbc_X6_readLaw_0 hc hV (fun _ _ => rfl) (Nat.le_refl _) n hB hl hf)
/-! X7_plate -/
theorem kwc_X7_65 {R : Room} {s : State} {args : Array Value} (hts : ∀ w ∈ wsC, w.before args s = true) (hR : rm_X0_addPlate.frames + 1 ≤ R.frames ∧ 8 + (3 + 11) + rm_X0_addPlate.locals ≤ R.locals) : CallW R s args RX7 RX0 65 yX0_addPlate cX0_addPlate 3 (some .int) wn_X0_addPlate rm_X0_addPlate 0 0 1 := cwV 1 hts (gC_v qc_381 qc_382 qc_383 qc_126 qc_384) rfl rfl rfl (by decide +kernel) hR
abbrev rm_X7_plate : Room := { frames := 5, cells := 1, slots := 5, locals := 114 }
abbrev wn_X7_plate : List Cond := .code yX7_plate cX7_plate 2 (some .int) :: wsC
noncomputable def fc_X7_plate (n : Nat) (σ : CS) : Option ((Int32) × CS) := if ((σ.1 5 8) < 6) then (bd (fc_X6_readPlate n σ) (fun r3 σ4 => ck (decide (σ.2.2.2.2.2 ≤ σ4.2.2.2.2.2)) (oc r3 (sq (cp σ4 1 2 0) (fun σ7 => some (((-20) - (σ7.1 1 3)), σ7))) (fun q6 => sq (cp σ4 1 2 0) (fun σ8 => bd (fc_X0_addPlate n σ8 q6) (fun r9 σ10 => ck (decide (σ8.2.2.2.2.2 ≤ σ10.2.2.2.2.2)) (some (r9, σ10)))))))) else (bd (fc_X7_refuse n σ (-6)) (fun r12 σ13 => ck (decide (σ.2.2.2.2.2 ≤ σ13.2.2.2.2.2)) (some (r12, σ13))))
set_option maxRecDepth 100000 in
set_option maxHeartbeats 4000000 in
theorem tbc_X7_plate_0 {p : Program} {l : Launch} {e : Env} {s : State} {m : MethodId} {args : Array Value} {below : List Frame} {meth : Method} {c : Code} {D : va_G} {A : Nat → Prop} {ad ao : Nat → Nat} {n0 : Nat} {cy : CY} {z : CZ} {r0 : Int32} {σ0 : CS} (hc : cxB RX7 wsC cX7_plate 2 (some .int) p s m args meth c) (hV : cV D cy z A s) (had : ∀ j, j < n0 → ad j = ao j) {σ : CS} (hn0 : n0 ≤ σ.2.2.2.2.2) (n : Nat) {H : Heap} {locs : List Loc} {ls : Array Slot} (hB : cB D ad cy A s.heap σ H locs) (hl : lv_has ls 2 [(0, .ref (ad 0))]) (hf : fc_X7_plate n σ = some (r0, σ0)) : W p l e rm_X7_plate s m args below meth c H locs 0 0 (MQ below (cQa D ao cy A (fun _ => some (.int r0)) n0 σ0) args s 1 5 A) (F0 m 0 ls []) := by
  obtain ⟨hx, hb, hml, hown, hts, hr, hlocks⟩ := id hc
  unfold fc_X7_plate at hf
  refine lv_aload_n hx hb dX7_plate_0 rfl (lv_at hl 0 rfl) ?_
  refine rc_get (own := RX7) hx hb hts inC_7 hown hV hB 0 (c34 rfl hB) (ceq_0 _ _ _) rfl 2 (Nat.le_of_ble_eq_true rfl) qf_X7_23 rfl dX7_plate_1 ?_
  refine rc_get (own := RX7) hx hb hts inC_0 hown hV hB 5 (c34 rfl hB) (ceq_5 _ _ _) rfl 8 (Nat.le_of_ble_eq_true rfl) qf_X7_55 rfl dX7_plate_4 ?_
  refine lv_bipush (v := 6) hx hb dX7_plate_7 (by decide) ?_
  refine lv_icmp_lt (tgt := 19) hx hb dX7_plate_9 (by decide) (fun c1 => ?_) (fun c1 => ?_)
  · have hf := it_t hf c1
    refine lv_aload_n hx hb dX7_plate_19 rfl (lv_at hl 0 rfl) ?_
    refine rc_get (own := RX7) hx hb hts inC_7 hown hV hB 0 (c34 rfl hB) (ceq_0 _ _ _) rfl 0 (Nat.le_of_ble_eq_true rfl) qf_X7_10 rfl dX7_plate_20 ?_
    obtain ⟨r3, σ4, hkr3, hf⟩ := bd_e hf
    obtain ⟨k5, hf⟩ := ck_e hf
    have hBo := hB
    refine rc_callVA (own := RX7) (av := []) (rest := []) (rv := (fun a => some (va_rf (Option.map a r3)))) hx hb hml hown hts hl.1 hV hB 1 (c34 rfl hB) (ceq_1 _ _ _) rfl (cc_X6_readPlate l D ad cy z n σ hkr3) (cwV 0 hts (gC_v qc_377 qc_378 qc_379 qc_194 qc_380) rfl rfl rfl (by decide +kernel) ⟨Nat.le_of_ble_eq_true rfl, Nat.le_of_ble_eq_true rfl⟩) rfl rfl (lv_room (Nat.le_of_ble_eq_true rfl)) dX7_plate_23 (Nat.le_of_ble_eq_true rfl) (Nat.le_of_ble_eq_true rfl) (fun ad2 had2 H locs hB => ?_)
    have hl : lv_has ls 2 [(0, .ref (ad2 0))] := by rw [had2 0 (c34 rfl hBo)]; exact hl
    refine W.eq (g2 := F0 m 26 ls [va_rf (Option.map ad2 r3)]) (by rfl) ?_
    have had : ∀ j, j < n0 → ad2 j = ao j := fun j h => (had2 j (Nat.lt_of_lt_of_le h hn0)).trans (had j h)
    have hn0 : n0 ≤ σ4.2.2.2.2.2 := Nat.le_trans hn0 (of_decide_eq_true k5)
    refine W.widen (k := 1) (n := 5) (Nat.le_of_ble_eq_true rfl) (Nat.le_of_ble_eq_true rfl) ?_
    rcases r3 with _ | q6
    · have hf := oc_n hf
      refine lv_astore_nN (lv' := [(1, .null), (0, .ref (ad2 0))]) hx hb dX7_plate_26 rfl hl (by decide) rfl (fun ls hl => ?_)
      refine lv_aload_n hx hb dX7_plate_27 rfl (lv_at hl 1 rfl) ?_
      refine rc_get (own := RX7) hx hb hts inC_7 hown hV hB 0 (c34 rfl hB) (ceq_0 _ _ _) rfl 0 (Nat.le_of_ble_eq_true rfl) qf_X7_10 rfl dX7_plate_28 ?_
      refine lv_iconst (v := 0) hx hb dX7_plate_31 (by decide) ?_
      refine rc_puti (own := RX7) (ty := .int) hx hb hts inC_6 hown hV hB 1 (c34 rfl hB) (ceq_1 _ _ _) rfl 2 (Nat.le_of_ble_eq_true rfl) qf_X7_47 tyX6 tyX6_ok nmX6 (cst_1_2 _ _ _ _) rfl pdc_6_2 rfl rfl (Nat.le_of_ble_eq_true rfl) dX7_plate_32 (fun σ7 eσ7 H locs hB => ?_)
      have hf := sq_e hf σ7 eσ7
      have hn0 : n0 ≤ σ7.2.2.2.2.2 := by rw [eσ7]; exact hn0
      refine lv_aload_nN hx hb dX7_plate_35 rfl (lv_at hl 0 rfl) ?_
      refine lv_ifnonnullN hx hb dX7_plate_36 ?_
      refine lv_bipush (v := (-20)) hx hb dX7_plate_39 (by decide) ?_
      refine lv_aload_n hx hb dX7_plate_41 rfl (lv_at hl 1 rfl) ?_
      refine rc_get (own := RX7) hx hb hts inC_7 hown hV hB 0 (c34 rfl hB) (ceq_0 _ _ _) rfl 0 (Nat.le_of_ble_eq_true rfl) qf_X7_10 rfl dX7_plate_42 ?_
      refine rc_get (own := RX7) hx hb hts inC_6 hown hV hB 1 (c34 rfl hB) (ceq_1 _ _ _) rfl 3 (Nat.le_of_ble_eq_true rfl) qf_X7_62 rfl dX7_plate_45 ?_
      refine lv_isub hx hb dX7_plate_48 ?_
      refine lv_goto (tgt := 60) hx hb dX7_plate_49 (by decide) ?_
      obtain ⟨rfl, rfl⟩ := so_e hf
      refine W.widen (k := 1) (n := 5) (Nat.le_of_ble_eq_true rfl) (Nat.le_of_ble_eq_true rfl) ?_
      exact rc_iretA hx hb hr hlocks had hB dX7_plate_60
    · have hf := oc_s hf
      refine lv_astore_n (lv' := [(1, .ref (ad2 q6)), (0, .ref (ad2 0))]) hx hb dX7_plate_26 rfl hl (by decide) rfl (fun ls hl => ?_)
      refine lv_aload_n hx hb dX7_plate_27 rfl (lv_at hl 1 rfl) ?_
      refine rc_get (own := RX7) hx hb hts inC_7 hown hV hB 0 (c34 rfl hB) (ceq_0 _ _ _) rfl 0 (Nat.le_of_ble_eq_true rfl) qf_X7_10 rfl dX7_plate_28 ?_
      refine lv_iconst (v := 0) hx hb dX7_plate_31 (by decide) ?_
      refine rc_puti (own := RX7) (ty := .int) hx hb hts inC_6 hown hV hB 1 (c34 rfl hB) (ceq_1 _ _ _) rfl 2 (Nat.le_of_ble_eq_true rfl) qf_X7_47 tyX6 tyX6_ok nmX6 (cst_1_2 _ _ _ _) rfl pdc_6_2 rfl rfl (Nat.le_of_ble_eq_true rfl) dX7_plate_32 (fun σ8 eσ8 H locs hB => ?_)
      have hf := sq_e hf σ8 eσ8
      have hn0 : n0 ≤ σ8.2.2.2.2.2 := by rw [eσ8]; exact hn0
      refine lv_aload_n hx hb dX7_plate_35 rfl (lv_at hl 0 rfl) ?_
      refine lv_ifnonnull (tgt := 52) hx hb dX7_plate_36 (by decide) ?_
      refine lv_aload_n hx hb dX7_plate_52 rfl (lv_at hl 1 rfl) ?_
      refine rc_get (own := RX7) hx hb hts inC_7 hown hV hB 0 (c34 rfl hB) (ceq_0 _ _ _) rfl 2 (Nat.le_of_ble_eq_true rfl) qf_X7_23 rfl dX7_plate_53 ?_
      refine lv_aload_n hx hb dX7_plate_56 rfl (lv_at hl 0 rfl) ?_
      obtain ⟨r9, σ10, hkr9, hf⟩ := bd_e hf
      refine rc_callV (own := RX7) (av := [.ref (ad2 q6)]) (rest := []) (rv := (some (.int r9))) hx hb hml hown hts hl.1 hV hB 5 (c34 rfl hB) (ceq_5 _ _ _) rfl (cc_X0_addPlate l D ad2 cy z n σ8 q6 hkr9) (kwc_X7_65  hts ⟨Nat.le_of_ble_eq_true rfl, Nat.le_of_ble_eq_true rfl⟩) rfl rfl (lv_room (Nat.le_of_ble_eq_true rfl)) dX7_plate_57 (Nat.le_of_ble_eq_true rfl) (Nat.le_of_ble_eq_true rfl) (fun H locs hB => ?_)
      refine W.eq (g2 := F0 m 60 ls [.int r9]) rfl ?_
      obtain ⟨k11, hf⟩ := ck_e hf
      have hn0 : n0 ≤ σ10.2.2.2.2.2 := Nat.le_trans hn0 (of_decide_eq_true k11)
      obtain ⟨rfl, rfl⟩ := so_e hf
      refine W.widen (k := 1) (n := 5) (Nat.le_of_ble_eq_true rfl) (Nat.le_of_ble_eq_true rfl) ?_
      exact rc_iretA hx hb hr hlocks had hB dX7_plate_60
  · have hf := it_f hf c1
    refine lv_aload_n hx hb dX7_plate_12 rfl (lv_at hl 0 rfl) ?_
    refine lv_bipush (v := (-6)) hx hb dX7_plate_13 (by decide) ?_
    obtain ⟨r12, σ13, hkr12, hf⟩ := bd_e hf
    refine rc_callV (own := RX7) (av := [.int (-6)]) (rest := []) (rv := (some (.int r12))) hx hb hml hown hts hl.1 hV hB 0 (c34 rfl hB) (ceq_0 _ _ _) rfl (cc_X7_refuse l D ad cy z n σ (-6) hkr12) (kwc_X7_43  hts ⟨Nat.le_of_ble_eq_true rfl, Nat.le_of_ble_eq_true rfl⟩) rfl rfl (lv_room (Nat.le_of_ble_eq_true rfl)) dX7_plate_15 (Nat.le_of_ble_eq_true rfl) (Nat.le_of_ble_eq_true rfl) (fun H locs hB => ?_)
    refine W.eq (g2 := F0 m 18 ls [.int r12]) rfl ?_
    obtain ⟨k14, hf⟩ := ck_e hf
    have hn0 : n0 ≤ σ13.2.2.2.2.2 := Nat.le_trans hn0 (of_decide_eq_true k14)
    obtain ⟨rfl, rfl⟩ := so_e hf
    refine W.widen (k := 1) (n := 5) (Nat.le_of_ble_eq_true rfl) (Nat.le_of_ble_eq_true rfl) ?_
    exact rc_iretA hx hb hr hlocks had hB dX7_plate_18
theorem cc_X7_plate (l : Launch) (D : va_G) (ad : Nat → Nat) (cy : CY) (z : CZ) (n : Nat) (σ : CS) {r0 : Int32} {σ0 : CS} (hf : fc_X7_plate n σ = some (r0, σ0)) : cMa l yX7_plate wn_X7_plate rm_X7_plate D ad cy z [.ref (ad 0)] σ (fun _ => some (.int r0)) σ0 1 5 :=
  rc_metA (ret := (some .int)) (by decide) rfl (Nat.le_of_ble_eq_true rfl) (fun p e s m below meth c A ls hc hin hV hB hl => tbc_X7_plate_0 hc hV (fun _ _ => rfl) (Nat.le_refl _) n hB hl hf)
/-! X7_loss -/
theorem kwc_X7_102 {R : Room} {s : State} {args : Array Value} (hts : ∀ w ∈ wsC, w.before args s = true) (hR : rm_X0_addLoss.frames + 1 ≤ R.frames ∧ 8 + (3 + 11) + rm_X0_addLoss.locals ≤ R.locals) : CallW R s args RX7 RX0 102 yX0_addLoss cX0_addLoss 3 (some .int) wn_X0_addLoss rm_X0_addLoss 0 0 1 := cwV 1 hts (gC_v qc_404 qc_405 qc_406 qc_126 qc_407) rfl rfl rfl (by decide +kernel) hR
abbrev rm_X7_loss : Room := { frames := 46, cells := 3, slots := 45, locals := 2260 }
abbrev wn_X7_loss : List Cond := .code yX7_loss cX7_loss 5 (some .int) :: wsC
noncomputable def bc_X7_loss_82 (n : Nat) (σ : CS) (x1 : Int32) (x2 : Int32) (x3 : Int32) : Option ((Int32) × CS) := bd (fc_X6_readLaw n σ) (fun r2 σ3 => ck (decide (σ.2.2.2.2.2 ≤ σ3.2.2.2.2.2)) (oc r2 (sq (cp σ3 1 2 0) (fun σ6 => some (((-20) - (σ6.1 1 3)), σ6))) (fun q5 => sq (cp σ3 1 2 0) (fun σ7 => ckp (cwf σ7) (ck (decide (q5 < σ7.2.2.2.2.2)) (sq (σ7.2.2.2.2.2) (fun q9 => sq (cnw σ7 1 0 (fun _ => 0) (fun _ => none)) (fun σ10 => bd (fc_X1_init n σ10 q9 x1 x2 x3 q5) (fun _ σ15 => ck (decide (σ10.2.2.2.2.2 ≤ σ15.2.2.2.2.2)) (ck (decide (q5 < σ10.2.2.2.2.2)) (ck (decide (q9 < σ10.2.2.2.2.2)) (bd (fc_X0_addLoss n σ15 q9) (fun r19 σ20 => ck (decide (σ15.2.2.2.2.2 ≤ σ20.2.2.2.2.2)) (some (r19, σ20)))))))))))))))
set_option maxRecDepth 100000 in
set_option maxHeartbeats 4000000 in
theorem tbc_X7_loss_82 {p : Program} {l : Launch} {e : Env} {s : State} {m : MethodId} {args : Array Value} {below : List Frame} {meth : Method} {c : Code} {D : va_G} {A : Nat → Prop} {ad ao : Nat → Nat} {n0 : Nat} {cy : CY} {z : CZ} {r0 : Int32} {σ0 : CS} (hc : cxB RX7 wsC cX7_loss 5 (some .int) p s m args meth c) (hV : cV D cy z A s) (had : ∀ j, j < n0 → ad j = ao j) {σ : CS} (hn0 : n0 ≤ σ.2.2.2.2.2) (n : Nat) (x1 : Int32) (x2 : Int32) (x3 : Int32) {H : Heap} {locs : List Loc} {ls : Array Slot} (hB : cB D ad cy A s.heap σ H locs) (hl : lv_has ls 5 [(0, .ref (ad 0)), (1, .int x1), (2, .int x2), (3, .int x3)]) (hf : bc_X7_loss_82 n σ x1 x2 x3 = some (r0, σ0)) : W p l e rm_X7_loss s m args below meth c H locs 0 0 (MQ below (cQa D ao cy A (fun _ => some (.int r0)) n0 σ0) args s 3 45 A) (F0 m 82 ls []) := by
  obtain ⟨hx, hb, hml, hown, hts, hr, hlocks⟩ := id hc
  unfold bc_X7_loss_82 at hf
  refine lv_aload_n hx hb dX7_loss_82 rfl (lv_at hl 0 rfl) ?_
  refine rc_get (own := RX7) hx hb hts inC_7 hown hV hB 0 (c34 rfl hB) (ceq_0 _ _ _) rfl 0 (Nat.le_of_ble_eq_true rfl) qf_X7_10 rfl dX7_loss_83 ?_
  obtain ⟨r2, σ3, hkr2, hf⟩ := bd_e hf
  obtain ⟨k4, hf⟩ := ck_e hf
  have hBo := hB
  refine rc_callVA (own := RX7) (av := []) (rest := []) (rv := (fun a => some (va_rf (Option.map a r2)))) hx hb hml hown hts hl.1 hV hB 1 (c34 rfl hB) (ceq_1 _ _ _) rfl (cc_X6_readLaw l D ad cy z n σ hkr2) (cwV 0 hts (gC_v qc_397 qc_398 qc_399 qc_194 qc_400) rfl rfl rfl (by decide +kernel) ⟨Nat.le_of_ble_eq_true rfl, Nat.le_of_ble_eq_true rfl⟩) rfl rfl (lv_room (Nat.le_of_ble_eq_true rfl)) dX7_loss_86 (Nat.le_of_ble_eq_true rfl) (Nat.le_of_ble_eq_true rfl) (fun ad1 had1 H locs hB => ?_)
  have hl : lv_has ls 5 [(0, .ref (ad1 0)), (1, .int x1), (2, .int x2), (3, .int x3)] := by rw [had1 0 (c34 rfl hBo)]; exact hl
  refine W.eq (g2 := F0 m 89 ls [va_rf (Option.map ad1 r2)]) (by rfl) ?_
  have had : ∀ j, j < n0 → ad1 j = ao j := fun j h => (had1 j (Nat.lt_of_lt_of_le h hn0)).trans (had j h)
  have hn0 : n0 ≤ σ3.2.2.2.2.2 := Nat.le_trans hn0 (of_decide_eq_true k4)
  refine W.widen (k := 1) (n := 20) (Nat.le_of_ble_eq_true rfl) (Nat.le_of_ble_eq_true rfl) ?_
  rcases r2 with _ | q5
  · have hf := oc_n hf
    refine lv_astoreN (lv' := [(4, .null), (0, .ref (ad1 0)), (1, .int x1), (2, .int x2), (3, .int x3)]) hx hb dX7_loss_89 hl (by decide) rfl (fun ls hl => ?_)
    refine lv_aload_n hx hb dX7_loss_91 rfl (lv_at hl 1 rfl) ?_
    refine rc_get (own := RX7) hx hb hts inC_7 hown hV hB 0 (c34 rfl hB) (ceq_0 _ _ _) rfl 0 (Nat.le_of_ble_eq_true rfl) qf_X7_10 rfl dX7_loss_92 ?_
    refine lv_iconst (v := 0) hx hb dX7_loss_95 (by decide) ?_
    refine rc_puti (own := RX7) (ty := .int) hx hb hts inC_6 hown hV hB 1 (c34 rfl hB) (ceq_1 _ _ _) rfl 2 (Nat.le_of_ble_eq_true rfl) qf_X7_47 tyX6 tyX6_ok nmX6 (cst_1_2 _ _ _ _) rfl pdc_6_2 rfl rfl (Nat.le_of_ble_eq_true rfl) dX7_loss_96 (fun σ6 eσ6 H locs hB => ?_)
    have hf := sq_e hf σ6 eσ6
    have hn0 : n0 ≤ σ6.2.2.2.2.2 := by rw [eσ6]; exact hn0
    refine lv_aloadN hx hb dX7_loss_99 (lv_at hl 0 rfl) ?_
    refine lv_ifnonnullN hx hb dX7_loss_101 ?_
    refine lv_bipush (v := (-20)) hx hb dX7_loss_104 (by decide) ?_
    refine lv_aload_n hx hb dX7_loss_106 rfl (lv_at hl 1 rfl) ?_
    refine rc_get (own := RX7) hx hb hts inC_7 hown hV hB 0 (c34 rfl hB) (ceq_0 _ _ _) rfl 0 (Nat.le_of_ble_eq_true rfl) qf_X7_10 rfl dX7_loss_107 ?_
    refine rc_get (own := RX7) hx hb hts inC_6 hown hV hB 1 (c34 rfl hB) (ceq_1 _ _ _) rfl 3 (Nat.le_of_ble_eq_true rfl) qf_X7_62 rfl dX7_loss_110 ?_
    refine lv_isub hx hb dX7_loss_113 ?_
    refine lv_goto (tgt := 136) hx hb dX7_loss_114 (by decide) ?_
    obtain ⟨rfl, rfl⟩ := so_e hf
    refine W.widen (k := 3) (n := 45) (Nat.le_of_ble_eq_true rfl) (Nat.le_of_ble_eq_true rfl) ?_
    exact rc_iretA hx hb hr hlocks had hB dX7_loss_136
  · have hf := oc_s hf
    refine lv_astore (lv' := [(4, .ref (ad1 q5)), (0, .ref (ad1 0)), (1, .int x1), (2, .int x2), (3, .int x3)]) hx hb dX7_loss_89 hl (by decide) rfl (fun ls hl => ?_)
    refine lv_aload_n hx hb dX7_loss_91 rfl (lv_at hl 1 rfl) ?_
    refine rc_get (own := RX7) hx hb hts inC_7 hown hV hB 0 (c34 rfl hB) (ceq_0 _ _ _) rfl 0 (Nat.le_of_ble_eq_true rfl) qf_X7_10 rfl dX7_loss_92 ?_
    refine lv_iconst (v := 0) hx hb dX7_loss_95 (by decide) ?_
    refine rc_puti (own := RX7) (ty := .int) hx hb hts inC_6 hown hV hB 1 (c34 rfl hB) (ceq_1 _ _ _) rfl 2 (Nat.le_of_ble_eq_true rfl) qf_X7_47 tyX6 tyX6_ok nmX6 (cst_1_2 _ _ _ _) rfl pdc_6_2 rfl rfl (Nat.le_of_ble_eq_true rfl) dX7_loss_96 (fun σ7 eσ7 H locs hB => ?_)
    have hf := sq_e hf σ7 eσ7
    have hn0 : n0 ≤ σ7.2.2.2.2.2 := by rw [eσ7]; exact hn0
    refine lv_aload hx hb dX7_loss_99 (lv_at hl 0 rfl) ?_
    refine lv_ifnonnull (tgt := 117) hx hb dX7_loss_101 (by decide) ?_
    refine lv_aload_n hx hb dX7_loss_117 rfl (lv_at hl 1 rfl) ?_
    refine rc_get (own := RX7) hx hb hts inC_7 hown hV hB 0 (c34 rfl hB) (ceq_0 _ _ _) rfl 2 (Nat.le_of_ble_eq_true rfl) qf_X7_23 rfl dX7_loss_118 ?_
    obtain ⟨k11, hf⟩ := ckp_e hf
    obtain ⟨k12, hf⟩ := ck_e hf
    have hBo := hB
    refine rc_newL (own := RX7) hx hb hts inC_1 tyX1 tyX1_ok hown (hts _ qc_395) (hts _ qc_396) (hts _ qc_76) hV hB k11 (Nat.le_of_ble_eq_true rfl) (Nat.le_of_ble_eq_true rfl) dX7_loss_121 (fun ad8 had8 q9 eq9 σ10 eσ10 H hB => ?_)
    have hf := sq_e hf q9 eq9
    have hf := sq_e hf σ10 eσ10
    have hl : lv_has ls 5 [(4, .ref (ad8 q5)), (0, .ref (ad8 0)), (1, .int x1), (2, .int x2), (3, .int x3)] := by rw [had8 q5 (of_decide_eq_true k12), had8 0 (c34 rfl hBo)]; exact hl
    refine W.eq (g2 := F0 m 124 ls [.ref (ad8 q9), .ref (ad8 5)]) (by first | (rw [had8 5 (c34 rfl hBo)]; done) | (rw [had8 5 (c34 rfl hBo)]; rfl)) ?_
    have had : ∀ j, j < n0 → ad8 j = ao j := fun j h => (had8 j (Nat.lt_of_lt_of_le h hn0)).trans (had j h)
    have hn0 : n0 ≤ σ10.2.2.2.2.2 := by rw [eσ10]; exact Nat.le_trans hn0 (Nat.le_succ _)
    refine W.widen (k := 2) (n := 25) (Nat.le_of_ble_eq_true rfl) (Nat.le_of_ble_eq_true rfl) ?_
    refine lv_dup hx hb dX7_loss_124 rfl ?_
    refine lv_iload_n hx hb dX7_loss_125 rfl (lv_at hl 2 rfl) ?_
    refine lv_iload_n hx hb dX7_loss_126 rfl (lv_at hl 3 rfl) ?_
    refine lv_iload_n hx hb dX7_loss_127 rfl (lv_at hl 4 rfl) ?_
    refine lv_aload hx hb dX7_loss_128 (lv_at hl 0 rfl) ?_
    obtain ⟨r14, σ15, hkr14, hf⟩ := bd_e hf
    obtain ⟨k18, hf⟩ := ck_e hf
    obtain ⟨k16, hf⟩ := ck_e hf
    obtain ⟨k17, hf⟩ := ck_e hf
    have hBo := hB
    refine rc_callIA (own := RX7) (av := [.int x1, .int x2, .int x3, .ref (ad8 q5)]) (rest := [.ref (ad8 q9), .ref (ad8 5)]) (rv := (fun _ => none)) hx hb hml hown hts hl.1 hV hB q9 (cc_X1_init l D ad8 cy z n σ10 q9 x1 x2 x3 q5 hkr14) (cwI 4 hts (gC_c qc_403) rfl rfl rfl (hts _ qc_76) (hts _ qc_401) (hts _ qc_402) rfl (by decide +kernel) ⟨Nat.le_of_ble_eq_true rfl, Nat.le_of_ble_eq_true rfl⟩) rfl rfl (lv_room (Nat.le_of_ble_eq_true rfl)) dX7_loss_130 (Nat.le_of_ble_eq_true rfl) (Nat.le_of_ble_eq_true rfl) (fun ad13 had13 H locs hB => ?_)
    have hl : lv_has ls 5 [(4, .ref (ad13 q5)), (0, .ref (ad13 0)), (1, .int x1), (2, .int x2), (3, .int x3)] := by rw [had13 q5 (of_decide_eq_true k16), had13 0 (c34 rfl hBo)]; exact hl
    refine W.eq (g2 := F0 m 133 ls [.ref (ad13 q9), .ref (ad13 5)]) (by first | (rw [had13 q9 (of_decide_eq_true k17), had13 5 (c34 rfl hBo)]; done) | (rw [had13 q9 (of_decide_eq_true k17), had13 5 (c34 rfl hBo)]; rfl)) ?_
    have had : ∀ j, j < n0 → ad13 j = ao j := fun j h => (had13 j (Nat.lt_of_lt_of_le h hn0)).trans (had j h)
    have hn0 : n0 ≤ σ15.2.2.2.2.2 := Nat.le_trans hn0 (of_decide_eq_true k18)
    refine W.widen (k := 3) (n := 45) (Nat.le_of_ble_eq_true rfl) (Nat.le_of_ble_eq_true rfl) ?_
    obtain ⟨r19, σ20, hkr19, hf⟩ := bd_e hf
    refine rc_callV (own := RX7) (av := [.ref (ad13 q9)]) (rest := []) (rv := (some (.int r19))) hx hb hml hown hts hl.1 hV hB 5 (c34 rfl hB) (ceq_5 _ _ _) rfl (cc_X0_addLoss l D ad13 cy z n σ15 q9 hkr19) (kwc_X7_102  hts ⟨Nat.le_of_ble_eq_true rfl, Nat.le_of_ble_eq_true rfl⟩) rfl rfl (lv_room (Nat.le_of_ble_eq_true rfl)) dX7_loss_133 (Nat.le_of_ble_eq_true rfl) (Nat.le_of_ble_eq_true rfl) (fun H locs hB => ?_)
    refine W.eq (g2 := F0 m 136 ls [.int r19]) rfl ?_
    obtain ⟨k21, hf⟩ := ck_e hf
    have hn0 : n0 ≤ σ20.2.2.2.2.2 := Nat.le_trans hn0 (of_decide_eq_true k21)
    obtain ⟨rfl, rfl⟩ := so_e hf
    refine W.widen (k := 3) (n := 45) (Nat.le_of_ble_eq_true rfl) (Nat.le_of_ble_eq_true rfl) ?_
    exact rc_iretA hx hb hr hlocks had hB dX7_loss_136
noncomputable def fc_X7_loss (n : Nat) (σ : CS) (x1 : Int32) (x2 : Int32) (x3 : Int32) : Option ((Int32) × CS) := if (x1 < 0) then (bd (fc_X7_refuse n σ (-1)) (fun r2 σ3 => ck (decide (σ.2.2.2.2.2 ≤ σ3.2.2.2.2.2)) (some (r2, σ3)))) else (if (x1 ≤ 6) then (if (x2 < 0) then (bd (fc_X7_refuse n σ (-4)) (fun r7 σ8 => ck (decide (σ.2.2.2.2.2 ≤ σ8.2.2.2.2.2)) (some (r7, σ8)))) else (if (0 ≤ x3) then (if (9999 < x2) then (bd (fc_X7_refuse n σ (-6)) (fun r12 σ13 => ck (decide (σ.2.2.2.2.2 ≤ σ13.2.2.2.2.2)) (some (r12, σ13)))) else (if (9999 < x3) then (bd (fc_X7_refuse n σ (-6)) (fun r16 σ17 => ck (decide (σ.2.2.2.2.2 ≤ σ17.2.2.2.2.2)) (some (r16, σ17)))) else (if ((σ.1 5 9) < 8) then (if (x1 = 6) then (if (x2 ≤ x3) then (bc_X7_loss_82 n σ x1 x2 x3) else (bd (fc_X7_refuse n σ (-3)) (fun r22 σ23 => ck (decide (σ.2.2.2.2.2 ≤ σ23.2.2.2.2.2)) (some (r22, σ23))))) else (bc_X7_loss_82 n σ x1 x2 x3)) else (bd (fc_X7_refuse n σ (-6)) (fun r25 σ26 => ck (decide (σ.2.2.2.2.2 ≤ σ26.2.2.2.2.2)) (some (r25, σ26))))))) else (bd (fc_X7_refuse n σ (-4)) (fun r28 σ29 => ck (decide (σ.2.2.2.2.2 ≤ σ29.2.2.2.2.2)) (some (r28, σ29)))))) else (bd (fc_X7_refuse n σ (-1)) (fun r31 σ32 => ck (decide (σ.2.2.2.2.2 ≤ σ32.2.2.2.2.2)) (some (r31, σ32)))))
set_option maxRecDepth 100000 in
set_option maxHeartbeats 4000000 in
theorem tbc_X7_loss_0 {p : Program} {l : Launch} {e : Env} {s : State} {m : MethodId} {args : Array Value} {below : List Frame} {meth : Method} {c : Code} {D : va_G} {A : Nat → Prop} {ad ao : Nat → Nat} {n0 : Nat} {cy : CY} {z : CZ} {r0 : Int32} {σ0 : CS} (hc : cxB RX7 wsC cX7_loss 5 (some .int) p s m args meth c) (hV : cV D cy z A s) (had : ∀ j, j < n0 → ad j = ao j) {σ : CS} (hn0 : n0 ≤ σ.2.2.2.2.2) (n : Nat) (x1 : Int32) (x2 : Int32) (x3 : Int32) {H : Heap} {locs : List Loc} {ls : Array Slot} (hB : cB D ad cy A s.heap σ H locs) (hl : lv_has ls 5 [(0, .ref (ad 0)), (1, .int x1), (2, .int x2), (3, .int x3)]) (hf : fc_X7_loss n σ x1 x2 x3 = some (r0, σ0)) : W p l e rm_X7_loss s m args below meth c H locs 0 0 (MQ below (cQa D ao cy A (fun _ => some (.int r0)) n0 σ0) args s 3 45 A) (F0 m 0 ls []) := by
  obtain ⟨hx, hb, hml, hown, hts, hr, hlocks⟩ := id hc
  unfold fc_X7_loss at hf
  refine lv_iload_n hx hb dX7_loss_0 rfl (lv_at hl 1 rfl) ?_
  refine lv_if_lt (tgt := 10) hx hb dX7_loss_1 (by decide) (fun c1 => ?_) (fun c1 => ?_)
  · have hf := it_t hf c1
    refine lv_aload_n hx hb dX7_loss_10 rfl (lv_at hl 0 rfl) ?_
    refine lv_iconst (v := (-1)) hx hb dX7_loss_11 (by decide) ?_
    obtain ⟨r2, σ3, hkr2, hf⟩ := bd_e hf
    refine rc_callV (own := RX7) (av := [.int (-1)]) (rest := []) (rv := (some (.int r2))) hx hb hml hown hts hl.1 hV hB 0 (c34 rfl hB) (ceq_0 _ _ _) rfl (cc_X7_refuse l D ad cy z n σ (-1) hkr2) (kwc_X7_43  hts ⟨Nat.le_of_ble_eq_true rfl, Nat.le_of_ble_eq_true rfl⟩) rfl rfl (lv_room (Nat.le_of_ble_eq_true rfl)) dX7_loss_12 (Nat.le_of_ble_eq_true rfl) (Nat.le_of_ble_eq_true rfl) (fun H locs hB => ?_)
    refine W.eq (g2 := F0 m 15 ls [.int r2]) rfl ?_
    obtain ⟨k4, hf⟩ := ck_e hf
    have hn0 : n0 ≤ σ3.2.2.2.2.2 := Nat.le_trans hn0 (of_decide_eq_true k4)
    obtain ⟨rfl, rfl⟩ := so_e hf
    refine W.widen (k := 3) (n := 45) (Nat.le_of_ble_eq_true rfl) (Nat.le_of_ble_eq_true rfl) ?_
    exact rc_iretA hx hb hr hlocks had hB dX7_loss_15
  · have hf := it_f hf c1
    refine lv_iload_n hx hb dX7_loss_4 rfl (lv_at hl 1 rfl) ?_
    refine lv_bipush (v := 6) hx hb dX7_loss_5 (by decide) ?_
    refine lv_icmp_le (tgt := 16) hx hb dX7_loss_7 (by decide) (fun c5 => ?_) (fun c5 => ?_)
    · have hf := it_t hf c5
      refine lv_iload_n hx hb dX7_loss_16 rfl (lv_at hl 2 rfl) ?_
      refine lv_if_lt (tgt := 24) hx hb dX7_loss_17 (by decide) (fun c6 => ?_) (fun c6 => ?_)
      · have hf := it_t hf c6
        refine lv_aload_n hx hb dX7_loss_24 rfl (lv_at hl 0 rfl) ?_
        refine lv_bipush (v := (-4)) hx hb dX7_loss_25 (by decide) ?_
        obtain ⟨r7, σ8, hkr7, hf⟩ := bd_e hf
        refine rc_callV (own := RX7) (av := [.int (-4)]) (rest := []) (rv := (some (.int r7))) hx hb hml hown hts hl.1 hV hB 0 (c34 rfl hB) (ceq_0 _ _ _) rfl (cc_X7_refuse l D ad cy z n σ (-4) hkr7) (kwc_X7_43  hts ⟨Nat.le_of_ble_eq_true rfl, Nat.le_of_ble_eq_true rfl⟩) rfl rfl (lv_room (Nat.le_of_ble_eq_true rfl)) dX7_loss_27 (Nat.le_of_ble_eq_true rfl) (Nat.le_of_ble_eq_true rfl) (fun H locs hB => ?_)
        refine W.eq (g2 := F0 m 30 ls [.int r7]) rfl ?_
        obtain ⟨k9, hf⟩ := ck_e hf
        have hn0 : n0 ≤ σ8.2.2.2.2.2 := Nat.le_trans hn0 (of_decide_eq_true k9)
        obtain ⟨rfl, rfl⟩ := so_e hf
        refine W.widen (k := 3) (n := 45) (Nat.le_of_ble_eq_true rfl) (Nat.le_of_ble_eq_true rfl) ?_
        exact rc_iretA hx hb hr hlocks had hB dX7_loss_30
      · have hf := it_f hf c6
        refine lv_iload_n hx hb dX7_loss_20 rfl (lv_at hl 3 rfl) ?_
        refine lv_if_ge (tgt := 31) hx hb dX7_loss_21 (by decide) (fun c10 => ?_) (fun c10 => ?_)
        · have hf := it_t hf c10
          refine lv_iload_n hx hb dX7_loss_31 rfl (lv_at hl 2 rfl) ?_
          refine lv_sipush (v := 9999) hx hb dX7_loss_32 (by decide) ?_
          refine lv_icmp_gt (tgt := 57) hx hb dX7_loss_35 (by decide) (fun c11 => ?_) (fun c11 => ?_)
          · have hf := it_t hf c11
            refine lv_aload_n hx hb dX7_loss_57 rfl (lv_at hl 0 rfl) ?_
            refine lv_bipush (v := (-6)) hx hb dX7_loss_58 (by decide) ?_
            obtain ⟨r12, σ13, hkr12, hf⟩ := bd_e hf
            refine rc_callV (own := RX7) (av := [.int (-6)]) (rest := []) (rv := (some (.int r12))) hx hb hml hown hts hl.1 hV hB 0 (c34 rfl hB) (ceq_0 _ _ _) rfl (cc_X7_refuse l D ad cy z n σ (-6) hkr12) (kwc_X7_43  hts ⟨Nat.le_of_ble_eq_true rfl, Nat.le_of_ble_eq_true rfl⟩) rfl rfl (lv_room (Nat.le_of_ble_eq_true rfl)) dX7_loss_60 (Nat.le_of_ble_eq_true rfl) (Nat.le_of_ble_eq_true rfl) (fun H locs hB => ?_)
            refine W.eq (g2 := F0 m 63 ls [.int r12]) rfl ?_
            obtain ⟨k14, hf⟩ := ck_e hf
            have hn0 : n0 ≤ σ13.2.2.2.2.2 := Nat.le_trans hn0 (of_decide_eq_true k14)
            obtain ⟨rfl, rfl⟩ := so_e hf
            refine W.widen (k := 3) (n := 45) (Nat.le_of_ble_eq_true rfl) (Nat.le_of_ble_eq_true rfl) ?_
            exact rc_iretA hx hb hr hlocks had hB dX7_loss_63
          · have hf := it_f hf c11
            refine lv_iload_n hx hb dX7_loss_38 rfl (lv_at hl 3 rfl) ?_
            refine lv_sipush (v := 9999) hx hb dX7_loss_39 (by decide) ?_
            refine lv_icmp_gt (tgt := 57) hx hb dX7_loss_42 (by decide) (fun c15 => ?_) (fun c15 => ?_)
            · have hf := it_t hf c15
              refine lv_aload_n hx hb dX7_loss_57 rfl (lv_at hl 0 rfl) ?_
              refine lv_bipush (v := (-6)) hx hb dX7_loss_58 (by decide) ?_
              obtain ⟨r16, σ17, hkr16, hf⟩ := bd_e hf
              refine rc_callV (own := RX7) (av := [.int (-6)]) (rest := []) (rv := (some (.int r16))) hx hb hml hown hts hl.1 hV hB 0 (c34 rfl hB) (ceq_0 _ _ _) rfl (cc_X7_refuse l D ad cy z n σ (-6) hkr16) (kwc_X7_43  hts ⟨Nat.le_of_ble_eq_true rfl, Nat.le_of_ble_eq_true rfl⟩) rfl rfl (lv_room (Nat.le_of_ble_eq_true rfl)) dX7_loss_60 (Nat.le_of_ble_eq_true rfl) (Nat.le_of_ble_eq_true rfl) (fun H locs hB => ?_)
              refine W.eq (g2 := F0 m 63 ls [.int r16]) rfl ?_
              obtain ⟨k18, hf⟩ := ck_e hf
              have hn0 : n0 ≤ σ17.2.2.2.2.2 := Nat.le_trans hn0 (of_decide_eq_true k18)
              obtain ⟨rfl, rfl⟩ := so_e hf
              refine W.widen (k := 3) (n := 45) (Nat.le_of_ble_eq_true rfl) (Nat.le_of_ble_eq_true rfl) ?_
              exact rc_iretA hx hb hr hlocks had hB dX7_loss_63
            · have hf := it_f hf c15
              refine lv_aload_n hx hb dX7_loss_45 rfl (lv_at hl 0 rfl) ?_
              refine rc_get (own := RX7) hx hb hts inC_7 hown hV hB 0 (c34 rfl hB) (ceq_0 _ _ _) rfl 2 (Nat.le_of_ble_eq_true rfl) qf_X7_23 rfl dX7_loss_46 ?_
              refine rc_get (own := RX7) hx hb hts inC_0 hown hV hB 5 (c34 rfl hB) (ceq_5 _ _ _) rfl 9 (Nat.le_of_ble_eq_true rfl) qf_X7_90 rfl dX7_loss_49 ?_
              refine lv_bipush (v := 8) hx hb dX7_loss_52 (by decide) ?_
              refine lv_icmp_lt (tgt := 64) hx hb dX7_loss_54 (by decide) (fun c19 => ?_) (fun c19 => ?_)
              · have hf := it_t hf c19
                refine lv_iload_n hx hb dX7_loss_64 rfl (lv_at hl 1 rfl) ?_
                refine lv_bipush (v := 6) hx hb dX7_loss_65 (by decide) ?_
                refine lv_icmp_ne (tgt := 82) hx hb dX7_loss_67 (by decide) (fun c20 => ?_) (fun c20 => ?_)
                · have hf := it_f hf c20
                  exact tbc_X7_loss_82 hc hV had hn0 n x1 x2 x3 hB (lv_sub hl [0, 1, 2, 3] rfl) hf
                · have hf := it_t hf c20
                  refine lv_iload_n hx hb dX7_loss_70 rfl (lv_at hl 2 rfl) ?_
                  refine lv_iload_n hx hb dX7_loss_71 rfl (lv_at hl 3 rfl) ?_
                  refine lv_icmp_le (tgt := 82) hx hb dX7_loss_72 (by decide) (fun c21 => ?_) (fun c21 => ?_)
                  · have hf := it_t hf c21
                    exact tbc_X7_loss_82 hc hV had hn0 n x1 x2 x3 hB (lv_sub hl [0, 1, 2, 3] rfl) hf
                  · have hf := it_f hf c21
                    refine lv_aload_n hx hb dX7_loss_75 rfl (lv_at hl 0 rfl) ?_
                    refine lv_bipush (v := (-3)) hx hb dX7_loss_76 (by decide) ?_
                    obtain ⟨r22, σ23, hkr22, hf⟩ := bd_e hf
                    refine rc_callV (own := RX7) (av := [.int (-3)]) (rest := []) (rv := (some (.int r22))) hx hb hml hown hts hl.1 hV hB 0 (c34 rfl hB) (ceq_0 _ _ _) rfl (cc_X7_refuse l D ad cy z n σ (-3) hkr22) (kwc_X7_43  hts ⟨Nat.le_of_ble_eq_true rfl, Nat.le_of_ble_eq_true rfl⟩) rfl rfl (lv_room (Nat.le_of_ble_eq_true rfl)) dX7_loss_78 (Nat.le_of_ble_eq_true rfl) (Nat.le_of_ble_eq_true rfl) (fun H locs hB => ?_)
                    refine W.eq (g2 := F0 m 81 ls [.int r22]) rfl ?_
                    obtain ⟨k24, hf⟩ := ck_e hf
                    have hn0 : n0 ≤ σ23.2.2.2.2.2 := Nat.le_trans hn0 (of_decide_eq_true k24)
                    obtain ⟨rfl, rfl⟩ := so_e hf
                    refine W.widen (k := 3) (n := 45) (Nat.le_of_ble_eq_true rfl) (Nat.le_of_ble_eq_true rfl) ?_
                    exact rc_iretA hx hb hr hlocks had hB dX7_loss_81
              · have hf := it_f hf c19
                refine lv_aload_n hx hb dX7_loss_57 rfl (lv_at hl 0 rfl) ?_
                refine lv_bipush (v := (-6)) hx hb dX7_loss_58 (by decide) ?_
                obtain ⟨r25, σ26, hkr25, hf⟩ := bd_e hf
                refine rc_callV (own := RX7) (av := [.int (-6)]) (rest := []) (rv := (some (.int r25))) hx hb hml hown hts hl.1 hV hB 0 (c34 rfl hB) (ceq_0 _ _ _) rfl (cc_X7_refuse l D ad cy z n σ (-6) hkr25) (kwc_X7_43  hts ⟨Nat.le_of_ble_eq_true rfl, Nat.le_of_ble_eq_true rfl⟩) rfl rfl (lv_room (Nat.le_of_ble_eq_true rfl)) dX7_loss_60 (Nat.le_of_ble_eq_true rfl) (Nat.le_of_ble_eq_true rfl) (fun H locs hB => ?_)
                refine W.eq (g2 := F0 m 63 ls [.int r25]) rfl ?_
                obtain ⟨k27, hf⟩ := ck_e hf
                have hn0 : n0 ≤ σ26.2.2.2.2.2 := Nat.le_trans hn0 (of_decide_eq_true k27)
                obtain ⟨rfl, rfl⟩ := so_e hf
                refine W.widen (k := 3) (n := 45) (Nat.le_of_ble_eq_true rfl) (Nat.le_of_ble_eq_true rfl) ?_
                exact rc_iretA hx hb hr hlocks had hB dX7_loss_63
        · have hf := it_f hf c10
          refine lv_aload_n hx hb dX7_loss_24 rfl (lv_at hl 0 rfl) ?_
          refine lv_bipush (v := (-4)) hx hb dX7_loss_25 (by decide) ?_
          obtain ⟨r28, σ29, hkr28, hf⟩ := bd_e hf
          refine rc_callV (own := RX7) (av := [.int (-4)]) (rest := []) (rv := (some (.int r28))) hx hb hml hown hts hl.1 hV hB 0 (c34 rfl hB) (ceq_0 _ _ _) rfl (cc_X7_refuse l D ad cy z n σ (-4) hkr28) (kwc_X7_43  hts ⟨Nat.le_of_ble_eq_true rfl, Nat.le_of_ble_eq_true rfl⟩) rfl rfl (lv_room (Nat.le_of_ble_eq_true rfl)) dX7_loss_27 (Nat.le_of_ble_eq_true rfl) (Nat.le_of_ble_eq_true rfl) (fun H locs hB => ?_)
          refine W.eq (g2 := F0 m 30 ls [.int r28]) rfl ?_
          obtain ⟨k30, hf⟩ := ck_e hf
          have hn0 : n0 ≤ σ29.2.2.2.2.2 := Nat.le_trans hn0 (of_decide_eq_true k30)
          obtain ⟨rfl, rfl⟩ := so_e hf
          refine W.widen (k := 3) (n := 45) (Nat.le_of_ble_eq_true rfl) (Nat.le_of_ble_eq_true rfl) ?_
          exact rc_iretA hx hb hr hlocks had hB dX7_loss_30
    · have hf := it_f hf c5
      refine lv_aload_n hx hb dX7_loss_10 rfl (lv_at hl 0 rfl) ?_
      refine lv_iconst (v := (-1)) hx hb dX7_loss_11 (by decide) ?_
      obtain ⟨r31, σ32, hkr31, hf⟩ := bd_e hf
      refine rc_callV (own := RX7) (av := [.int (-1)]) (rest := []) (rv := (some (.int r31))) hx hb hml hown hts hl.1 hV hB 0 (c34 rfl hB) (ceq_0 _ _ _) rfl (cc_X7_refuse l D ad cy z n σ (-1) hkr31) (kwc_X7_43  hts ⟨Nat.le_of_ble_eq_true rfl, Nat.le_of_ble_eq_true rfl⟩) rfl rfl (lv_room (Nat.le_of_ble_eq_true rfl)) dX7_loss_12 (Nat.le_of_ble_eq_true rfl) (Nat.le_of_ble_eq_true rfl) (fun H locs hB => ?_)
      refine W.eq (g2 := F0 m 15 ls [.int r31]) rfl ?_
      obtain ⟨k33, hf⟩ := ck_e hf
      have hn0 : n0 ≤ σ32.2.2.2.2.2 := Nat.le_trans hn0 (of_decide_eq_true k33)
      obtain ⟨rfl, rfl⟩ := so_e hf
      refine W.widen (k := 3) (n := 45) (Nat.le_of_ble_eq_true rfl) (Nat.le_of_ble_eq_true rfl) ?_
      exact rc_iretA hx hb hr hlocks had hB dX7_loss_15
theorem cc_X7_loss (l : Launch) (D : va_G) (ad : Nat → Nat) (cy : CY) (z : CZ) (n : Nat) (σ : CS) (x1 : Int32) (x2 : Int32) (x3 : Int32) {r0 : Int32} {σ0 : CS} (hf : fc_X7_loss n σ x1 x2 x3 = some (r0, σ0)) : cMa l yX7_loss wn_X7_loss rm_X7_loss D ad cy z [.ref (ad 0), .int x1, .int x2, .int x3] σ (fun _ => some (.int r0)) σ0 3 45 :=
  rc_metA (ret := (some .int)) (by decide) rfl (Nat.le_of_ble_eq_true rfl) (fun p e s m below meth c A ls hc hin hV hB hl => tbc_X7_loss_0 hc hV (fun _ _ => rfl) (Nat.le_refl _) n x1 x2 x3 hB hl hf)
