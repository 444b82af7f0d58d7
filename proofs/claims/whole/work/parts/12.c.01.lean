/-! X0_copyFrom_5_18 -/
abbrev rm_X0_copyFrom_5_18 : Room := { frames := 2, cells := 0, slots := 0, locals := 81 }
def bc_X0_copyFrom_5_18_28 (n : Nat) (K28 : CS → Int32 → Option ((Int32) × CS)) (σ : CS) (x2 : Int32) : Option ((Int32) × CS) := if (8 ≤ x2) then (sq (cpr σ 8 (va_cpy (σ.1 21) (σ.1 8) (Int32.toNatClampNeg 0) (Int32.toNatClampNeg 0) (Int32.toNatClampNeg 4))) (fun σ2 => sq (cpr σ2 9 (va_cpy (σ2.1 22) (σ2.1 9) (Int32.toNatClampNeg 0) (Int32.toNatClampNeg 0) (Int32.toNatClampNeg 4))) (fun σ3 => sq (cpr σ3 10 (va_cpy (σ3.1 23) (σ3.1 10) (Int32.toNatClampNeg 0) (Int32.toNatClampNeg 0) (Int32.toNatClampNeg 4))) (fun σ4 => sq (cpr σ4 11 (va_cpy (σ4.1 24) (σ4.1 11) (Int32.toNatClampNeg 0) (Int32.toNatClampNeg 0) (Int32.toNatClampNeg 4))) (fun σ5 => bd (fc_X5_copyFrom_12_25 n σ5) (fun _ σ7 => bd (fc_X4_copyFrom_16_29 n σ7) (fun _ σ9 => sq (cp σ9 5 8 (σ9.1 18 8)) (fun σ10 => sq (cp σ10 5 9 (σ10.1 18 9)) (fun σ11 => sq (cp σ11 5 10 (σ11.1 18 10)) (fun σ12 => ck (zb (σ12.1 18 11)) (sq (cp σ12 5 11 (σ12.1 18 11)) (fun σ13 => some (0, σ13))))))))))))) else (ck (ib x2 8) (sq (σ.2.2.1 20 (Int32.toNatClampNeg x2)) (fun o16 => oc o16 (ck (ib x2 8) (sq (cpp σ 7 (Int32.toNatClampNeg x2) none) (fun σ20 => sq (x2 + 1 : Int32) (fun y21 => K28 σ20 y21)))) (fun q18 => ck (pk σ q18 1) (ck (ib x2 8) (sq (cpp σ 7 (Int32.toNatClampNeg x2) (some q18)) (fun σ23 => sq (x2 + 1 : Int32) (fun y25 => K28 σ23 y25))))))))
set_option maxRecDepth 100000 in
set_option maxHeartbeats 4000000 in
theorem tbc_X0_copyFrom_5_18_28 {p : Program} {l : Launch} {e : Env} {s : State} {m : MethodId} {args : Array Value} {below : List Frame} {meth : Method} {c : Code} {D : va_G} {A : Nat → Prop} {ad : Nat → Nat} {cy : CY} {z : CZ} {r0 : Int32} {σ0 : CS} (hc : cxB RX0 wsC cX0_copyFrom 3 none p s m args meth c) (hV : cV D cy z A s) (n : Nat) (K28 : CS → Int32 → Option ((Int32) × CS)) (hK28 : ∀ (σ : CS) (x2 : Int32) (H : Heap) (locs : List Loc) (ls : Array Slot), cB D ad cy A s.heap σ H locs → lv_has ls 3 [(0, .ref (ad 5)), (1, .ref (ad 18)), (2, .int x2)] → K28 σ x2 = some (r0, σ0) → W p l e rm_X0_copyFrom_5_18 s m args below meth c H locs 0 0 (MQ below (cQ D ad cy A none σ0) args s 0 0 A) (F0 m 28 ls [])) (σ : CS) (x2 : Int32) {H : Heap} {locs : List Loc} {ls : Array Slot} (hB : cB D ad cy A s.heap σ H locs) (hl : lv_has ls 3 [(0, .ref (ad 5)), (1, .ref (ad 18)), (2, .int x2)]) (hf : bc_X0_copyFrom_5_18_28 n K28 σ x2 = some (r0, σ0)) : W p l e rm_X0_copyFrom_5_18 s m args below meth c H locs 0 0 (MQ below (cQ D ad cy A none σ0) args s 0 0 A) (F0 m 28 ls []) := by
  obtain ⟨hx, hb, hml, hown, hts, hr, hlocks⟩ := id hc
  unfold bc_X0_copyFrom_5_18_28 at hf
  refine lv_iload_n hx hb dX0_copyFrom_28 rfl (lv_at hl 2 rfl) ?_
  refine lv_bipush (v := 8) hx hb dX0_copyFrom_29 (by decide) ?_
  refine lv_icmp_ge (tgt := 52) hx hb dX0_copyFrom_31 (by decide) (fun c1 => ?_) (fun c1 => ?_)
  · have hf := it_t hf c1
    refine lv_aload_n hx hb dX0_copyFrom_52 rfl (lv_at hl 1 rfl) ?_
    refine rc_get (own := RX0) hx hb hts inC_0 hown hV hB 18 (c34 rfl hB) (ceq_18 _ _ _) rfl 2 (Nat.le_of_ble_eq_true rfl) qf_X0_23 rfl dX0_copyFrom_53 ?_
    refine lv_iconst (v := 0) hx hb dX0_copyFrom_56 (by decide) ?_
    refine lv_aload_n hx hb dX0_copyFrom_57 rfl (lv_at hl 0 rfl) ?_
    refine rc_get (own := RX0) hx hb hts inC_0 hown hV hB 5 (c34 rfl hB) (ceq_5 _ _ _) rfl 2 (Nat.le_of_ble_eq_true rfl) qf_X0_23 rfl dX0_copyFrom_58 ?_
    refine lv_iconst (v := 0) hx hb dX0_copyFrom_61 (by decide) ?_
    refine lv_iconst (v := 4) hx hb dX0_copyFrom_62 (by decide) ?_
    refine rc_copy hx hb (hml.trans hl.1.symm) hown (hts _ qc_34) (hts _ qc_35) (hts _ qc_36) (hts _ qc_37) hV hB 21 8 (c34 rfl hB) (c34 rfl hB) (ceq_21 _ _ _) (ceq_8 _ _ _) (fun _ => rfl) (by decide) (by decide) (by decide) (by decide) (by decide) (Nat.le_of_ble_eq_true rfl) (by decide +kernel) dX0_copyFrom_63 (fun σ2 eσ2 H locs hB => ?_)
    have hf := sq_e hf σ2 eσ2
    refine lv_aload_n hx hb dX0_copyFrom_66 rfl (lv_at hl 1 rfl) ?_
    refine rc_get (own := RX0) hx hb hts inC_0 hown hV hB 18 (c34 rfl hB) (ceq_18 _ _ _) rfl 3 (Nat.le_of_ble_eq_true rfl) qf_X0_27 rfl dX0_copyFrom_67 ?_
    refine lv_iconst (v := 0) hx hb dX0_copyFrom_70 (by decide) ?_
    refine lv_aload_n hx hb dX0_copyFrom_71 rfl (lv_at hl 0 rfl) ?_
    refine rc_get (own := RX0) hx hb hts inC_0 hown hV hB 5 (c34 rfl hB) (ceq_5 _ _ _) rfl 3 (Nat.le_of_ble_eq_true rfl) qf_X0_27 rfl dX0_copyFrom_72 ?_
    refine lv_iconst (v := 0) hx hb dX0_copyFrom_75 (by decide) ?_
    refine lv_iconst (v := 4) hx hb dX0_copyFrom_76 (by decide) ?_
    refine rc_copy hx hb (hml.trans hl.1.symm) hown (hts _ qc_34) (hts _ qc_35) (hts _ qc_36) (hts _ qc_37) hV hB 22 9 (c34 rfl hB) (c34 rfl hB) (ceq_22 _ _ _) (ceq_9 _ _ _) (fun _ => rfl) (by decide) (by decide) (by decide) (by decide) (by decide) (Nat.le_of_ble_eq_true rfl) (by decide +kernel) dX0_copyFrom_77 (fun σ3 eσ3 H locs hB => ?_)
    have hf := sq_e hf σ3 eσ3
    refine lv_aload_n hx hb dX0_copyFrom_80 rfl (lv_at hl 1 rfl) ?_
    refine rc_get (own := RX0) hx hb hts inC_0 hown hV hB 18 (c34 rfl hB) (ceq_18 _ _ _) rfl 4 (Nat.le_of_ble_eq_true rfl) qf_X0_30 rfl dX0_copyFrom_81 ?_
    refine lv_iconst (v := 0) hx hb dX0_copyFrom_84 (by decide) ?_
    refine lv_aload_n hx hb dX0_copyFrom_85 rfl (lv_at hl 0 rfl) ?_
    refine rc_get (own := RX0) hx hb hts inC_0 hown hV hB 5 (c34 rfl hB) (ceq_5 _ _ _) rfl 4 (Nat.le_of_ble_eq_true rfl) qf_X0_30 rfl dX0_copyFrom_86 ?_
    refine lv_iconst (v := 0) hx hb dX0_copyFrom_89 (by decide) ?_
    refine lv_iconst (v := 4) hx hb dX0_copyFrom_90 (by decide) ?_
    refine rc_copy hx hb (hml.trans hl.1.symm) hown (hts _ qc_34) (hts _ qc_35) (hts _ qc_36) (hts _ qc_37) hV hB 23 10 (c34 rfl hB) (c34 rfl hB) (ceq_23 _ _ _) (ceq_10 _ _ _) (fun _ => rfl) (by decide) (by decide) (by decide) (by decide) (by decide) (Nat.le_of_ble_eq_true rfl) (by decide +kernel) dX0_copyFrom_91 (fun σ4 eσ4 H locs hB => ?_)
    have hf := sq_e hf σ4 eσ4
    refine lv_aload_n hx hb dX0_copyFrom_94 rfl (lv_at hl 1 rfl) ?_
    refine rc_get (own := RX0) hx hb hts inC_0 hown hV hB 18 (c34 rfl hB) (ceq_18 _ _ _) rfl 5 (Nat.le_of_ble_eq_true rfl) qf_X0_33 rfl dX0_copyFrom_95 ?_
    refine lv_iconst (v := 0) hx hb dX0_copyFrom_98 (by decide) ?_
    refine lv_aload_n hx hb dX0_copyFrom_99 rfl (lv_at hl 0 rfl) ?_
    refine rc_get (own := RX0) hx hb hts inC_0 hown hV hB 5 (c34 rfl hB) (ceq_5 _ _ _) rfl 5 (Nat.le_of_ble_eq_true rfl) qf_X0_33 rfl dX0_copyFrom_100 ?_
    refine lv_iconst (v := 0) hx hb dX0_copyFrom_103 (by decide) ?_
    refine lv_iconst (v := 4) hx hb dX0_copyFrom_104 (by decide) ?_
    refine rc_copy hx hb (hml.trans hl.1.symm) hown (hts _ qc_34) (hts _ qc_35) (hts _ qc_36) (hts _ qc_37) hV hB 24 11 (c34 rfl hB) (c34 rfl hB) (ceq_24 _ _ _) (ceq_11 _ _ _) (fun _ => rfl) (by decide) (by decide) (by decide) (by decide) (by decide) (Nat.le_of_ble_eq_true rfl) (by decide +kernel) dX0_copyFrom_105 (fun σ5 eσ5 H locs hB => ?_)
    have hf := sq_e hf σ5 eσ5
    refine lv_aload_n hx hb dX0_copyFrom_108 rfl (lv_at hl 0 rfl) ?_
    refine rc_get (own := RX0) hx hb hts inC_0 hown hV hB 5 (c34 rfl hB) (ceq_5 _ _ _) rfl 6 (Nat.le_of_ble_eq_true rfl) qf_X0_39 rfl dX0_copyFrom_109 ?_
    refine lv_aload_n hx hb dX0_copyFrom_112 rfl (lv_at hl 1 rfl) ?_
    refine rc_get (own := RX0) hx hb hts inC_0 hown hV hB 18 (c34 rfl hB) (ceq_18 _ _ _) rfl 6 (Nat.le_of_ble_eq_true rfl) qf_X0_39 rfl dX0_copyFrom_113 ?_
    obtain ⟨r6, σ7, hkr6, hf⟩ := bd_e hf
    refine rc_callV (own := RX0) (av := [.ref (ad 25)]) (rest := []) (rv := none) hx hb hml hown hts hl.1 hV hB 12 (c34 rfl hB) (ceq_12 _ _ _) rfl (cc_X5_copyFrom_12_25 l D ad cy z n σ5 hkr6) (kwc_X0_70  hts ⟨Nat.le_of_ble_eq_true rfl, Nat.le_of_ble_eq_true rfl⟩) rfl rfl (lv_room (Nat.le_of_ble_eq_true rfl)) dX0_copyFrom_116 (Nat.le_refl _) (Nat.le_refl _) (fun H locs hB => ?_)
    refine W.eq (g2 := F0 m 119 ls []) rfl ?_
    refine lv_aload_n hx hb dX0_copyFrom_119 rfl (lv_at hl 0 rfl) ?_
    refine rc_get (own := RX0) hx hb hts inC_0 hown hV hB 5 (c34 rfl hB) (ceq_5 _ _ _) rfl 7 (Nat.le_of_ble_eq_true rfl) qf_X0_46 rfl dX0_copyFrom_120 ?_
    refine lv_aload_n hx hb dX0_copyFrom_123 rfl (lv_at hl 1 rfl) ?_
    refine rc_get (own := RX0) hx hb hts inC_0 hown hV hB 18 (c34 rfl hB) (ceq_18 _ _ _) rfl 7 (Nat.le_of_ble_eq_true rfl) qf_X0_46 rfl dX0_copyFrom_124 ?_
    obtain ⟨r8, σ9, hkr8, hf⟩ := bd_e hf
    refine rc_callV (own := RX0) (av := [.ref (ad 29)]) (rest := []) (rv := none) hx hb hml hown hts hl.1 hV hB 16 (c34 rfl hB) (ceq_16 _ _ _) rfl (cc_X4_copyFrom_16_29 l D ad cy z n σ7 hkr8) (kwc_X0_74  hts ⟨Nat.le_of_ble_eq_true rfl, Nat.le_of_ble_eq_true rfl⟩) rfl rfl (lv_room (Nat.le_of_ble_eq_true rfl)) dX0_copyFrom_127 (Nat.le_refl _) (Nat.le_refl _) (fun H locs hB => ?_)
    refine W.eq (g2 := F0 m 130 ls []) rfl ?_
    refine lv_aload_n hx hb dX0_copyFrom_130 rfl (lv_at hl 0 rfl) ?_
    refine lv_aload_n hx hb dX0_copyFrom_131 rfl (lv_at hl 1 rfl) ?_
    refine rc_get (own := RX0) hx hb hts inC_0 hown hV hB 18 (c34 rfl hB) (ceq_18 _ _ _) rfl 8 (Nat.le_of_ble_eq_true rfl) qf_X0_54 rfl dX0_copyFrom_132 ?_
    refine rc_puti (own := RX0) (ty := .int) hx hb hts inC_0 hown hV hB 5 (c34 rfl hB) (ceq_5 _ _ _) rfl 8 (Nat.le_of_ble_eq_true rfl) qf_X0_54 tyX0 tyX0_ok nmX0 (cst_5_8 _ _ _ _) rfl pdc_0_8 rfl rfl (Nat.le_of_ble_eq_true rfl) dX0_copyFrom_135 (fun σ10 eσ10 H locs hB => ?_)
    have hf := sq_e hf σ10 eσ10
    refine lv_aload_n hx hb dX0_copyFrom_138 rfl (lv_at hl 0 rfl) ?_
    refine lv_aload_n hx hb dX0_copyFrom_139 rfl (lv_at hl 1 rfl) ?_
    refine rc_get (own := RX0) hx hb hts inC_0 hown hV hB 18 (c34 rfl hB) (ceq_18 _ _ _) rfl 9 (Nat.le_of_ble_eq_true rfl) qf_X0_58 rfl dX0_copyFrom_140 ?_
    refine rc_puti (own := RX0) (ty := .int) hx hb hts inC_0 hown hV hB 5 (c34 rfl hB) (ceq_5 _ _ _) rfl 9 (Nat.le_of_ble_eq_true rfl) qf_X0_58 tyX0 tyX0_ok nmX0 (cst_5_9 _ _ _ _) rfl pdc_0_9 rfl rfl (Nat.le_of_ble_eq_true rfl) dX0_copyFrom_143 (fun σ11 eσ11 H locs hB => ?_)
    have hf := sq_e hf σ11 eσ11
    refine lv_aload_n hx hb dX0_copyFrom_146 rfl (lv_at hl 0 rfl) ?_
    refine lv_aload_n hx hb dX0_copyFrom_147 rfl (lv_at hl 1 rfl) ?_
    refine rc_get (own := RX0) hx hb hts inC_0 hown hV hB 18 (c34 rfl hB) (ceq_18 _ _ _) rfl 10 (Nat.le_of_ble_eq_true rfl) qf_X0_61 rfl dX0_copyFrom_148 ?_
    refine rc_puti (own := RX0) (ty := .int) hx hb hts inC_0 hown hV hB 5 (c34 rfl hB) (ceq_5 _ _ _) rfl 10 (Nat.le_of_ble_eq_true rfl) qf_X0_61 tyX0 tyX0_ok nmX0 (cst_5_10 _ _ _ _) rfl pdc_0_10 rfl rfl (Nat.le_of_ble_eq_true rfl) dX0_copyFrom_151 (fun σ12 eσ12 H locs hB => ?_)
    have hf := sq_e hf σ12 eσ12
    refine lv_aload_n hx hb dX0_copyFrom_154 rfl (lv_at hl 0 rfl) ?_
    refine lv_aload_n hx hb dX0_copyFrom_155 rfl (lv_at hl 1 rfl) ?_
    refine rc_get (own := RX0) hx hb hts inC_0 hown hV hB 18 (c34 rfl hB) (ceq_18 _ _ _) rfl 11 (Nat.le_of_ble_eq_true rfl) qf_X0_50 rfl dX0_copyFrom_156 ?_
    obtain ⟨k14, hf⟩ := ck_e hf
    refine rc_puti (own := RX0) (ty := .boolean) hx hb hts inC_0 hown hV hB 5 (c34 rfl hB) (ceq_5 _ _ _) rfl 11 (Nat.le_of_ble_eq_true rfl) qf_X0_50 tyX0 tyX0_ok nmX0 (cst_5_11 _ _ _ _) rfl pdc_0_11 (zb_n k14) (zb_f k14) (Nat.le_of_ble_eq_true rfl) dX0_copyFrom_159 (fun σ13 eσ13 H locs hB => ?_)
    have hf := sq_e hf σ13 eσ13
    obtain ⟨rfl, rfl⟩ := so_e hf
    exact rc_vret hx hb hr hlocks hB dX0_copyFrom_162
  · have hf := it_f hf c1
    refine lv_aload_n hx hb dX0_copyFrom_34 rfl (lv_at hl 0 rfl) ?_
    refine rc_get (own := RX0) hx hb hts inC_0 hown hV hB 5 (c34 rfl hB) (ceq_5 _ _ _) rfl 1 (Nat.le_of_ble_eq_true rfl) qf_X0_19 rfl dX0_copyFrom_35 ?_
    refine lv_iload_n hx hb dX0_copyFrom_38 rfl (lv_at hl 2 rfl) ?_
    refine lv_aload_n hx hb dX0_copyFrom_39 rfl (lv_at hl 1 rfl) ?_
    refine rc_get (own := RX0) hx hb hts inC_0 hown hV hB 18 (c34 rfl hB) (ceq_18 _ _ _) rfl 1 (Nat.le_of_ble_eq_true rfl) qf_X0_19 rfl dX0_copyFrom_40 ?_
    refine lv_iload_n hx hb dX0_copyFrom_43 rfl (lv_at hl 2 rfl) ?_
    obtain ⟨k15, hf⟩ := ck_e hf
    refine rc_aldq hx hb hV hB 20 (c34 rfl hB) 1 (ceq_20 _ _ _) rfl k15 dX0_copyFrom_44 (fun o16 eo16 => ?_)
    have hf := sq_e hf o16 eo16
    rcases o16 with _ | q18
    · have hf := oc_n hf
      obtain ⟨k19, hf⟩ := ck_e hf
      refine rc_astqN hx hb hV hB 7 (c34 rfl hB) 1 (ceq_7 _ _ _) rfl (fun _ => rfl) k19 dX0_copyFrom_45 (fun σ20 eσ20 H locs hB => ?_)
      have hf := sq_e hf σ20 eσ20
      obtain ⟨y21, ey21⟩ : ∃ z : Int32, z = x2 + 1 := ⟨_, rfl⟩
      have hf := sq_e hf y21 ey21
      refine lv_iinc (v := y21) (lv' := [(2, .int y21), (0, .ref (ad 5)), (1, .ref (ad 18))]) hx hb dX0_copyFrom_46 hl (k := 2) rfl (by rw [ey21]; rfl) (by decide) rfl (fun ls hl => ?_)
      refine lv_goto (tgt := 28) hx hb dX0_copyFrom_49 (by decide) ?_
      exact hK28 σ20 y21 _ _ _ hB (lv_sub hl [1, 2, 0] rfl) hf
    · have hf := oc_s hf
      obtain ⟨k24, hf⟩ := ck_e hf
      obtain ⟨k22, hf⟩ := ck_e hf
      refine rc_astq hx hb hV hB 7 (c34 rfl hB) 1 (ceq_7 _ _ _) rfl q18 (pk_s k24).2.1 (ceq_L k24) rfl rfl (fun _ => rfl) k22 dX0_copyFrom_45 (fun σ23 eσ23 H locs hB => ?_)
      have hf := sq_e hf σ23 eσ23
      obtain ⟨y25, ey25⟩ : ∃ z : Int32, z = x2 + 1 := ⟨_, rfl⟩
      have hf := sq_e hf y25 ey25
      refine lv_iinc (v := y25) (lv' := [(2, .int y25), (0, .ref (ad 5)), (1, .ref (ad 18))]) hx hb dX0_copyFrom_46 hl (k := 2) rfl (by rw [ey25]; rfl) (by decide) rfl (fun ls hl => ?_)
      refine lv_goto (tgt := 28) hx hb dX0_copyFrom_49 (by decide) ?_
      exact hK28 σ23 y25 _ _ _ hB (lv_sub hl [1, 2, 0] rfl) hf
def lc_X0_copyFrom_5_18_28 (n : Nat) : Nat → CS → Int32 → Option ((Int32) × CS)
  | 0 => fun _ _ => none
  | k + 1 => bc_X0_copyFrom_5_18_28 n (lc_X0_copyFrom_5_18_28 n k)
theorem tlc_X0_copyFrom_5_18_28 {p : Program} {l : Launch} {e : Env} {s : State} {m : MethodId} {args : Array Value} {below : List Frame} {meth : Method} {c : Code} {D : va_G} {A : Nat → Prop} {ad : Nat → Nat} {cy : CY} {z : CZ} {r0 : Int32} {σ0 : CS} (hc : cxB RX0 wsC cX0_copyFrom 3 none p s m args meth c) (hV : cV D cy z A s) (n : Nat) : ∀ (k : Nat) (σ : CS) (x2 : Int32) (H : Heap) (locs : List Loc) (ls : Array Slot), cB D ad cy A s.heap σ H locs → lv_has ls 3 [(0, .ref (ad 5)), (1, .ref (ad 18)), (2, .int x2)] → lc_X0_copyFrom_5_18_28 n k σ x2 = some (r0, σ0) → W p l e rm_X0_copyFrom_5_18 s m args below meth c H locs 0 0 (MQ below (cQ D ad cy A none σ0) args s 0 0 A) (F0 m 28 ls []) := by
  intro k
  induction k with
  | zero =>
    intro σ x2 H locs ls hB hl hf
    have hf : (none : Option ((Int32) × CS)) = some (r0, σ0) := hf
    cases hf
  | succ k ih =>
    intro σ x2 H locs ls hB hl hf
    exact tbc_X0_copyFrom_5_18_28 hc hV n (lc_X0_copyFrom_5_18_28 n k) ih σ x2 hB hl hf
def bc_X0_copyFrom_5_18_2 (n : Nat) (K2 : CS → Int32 → Option ((Int32) × CS)) (σ : CS) (x2 : Int32) : Option ((Int32) × CS) := if (6 ≤ x2) then (sq (0 : Int32) (fun y2 => lc_X0_copyFrom_5_18_28 n n σ y2)) else (ck (ib x2 6) (sq (σ.2.2.1 19 (Int32.toNatClampNeg x2)) (fun o4 => oc o4 (ck (ib x2 6) (sq (cpp σ 6 (Int32.toNatClampNeg x2) none) (fun σ8 => sq (x2 + 1 : Int32) (fun y9 => K2 σ8 y9)))) (fun q6 => ck (pk σ q6 3) (ck (ib x2 6) (sq (cpp σ 6 (Int32.toNatClampNeg x2) (some q6)) (fun σ11 => sq (x2 + 1 : Int32) (fun y13 => K2 σ11 y13))))))))
set_option maxRecDepth 100000 in
set_option maxHeartbeats 4000000 in
theorem tbc_X0_copyFrom_5_18_2 {p : Program} {l : Launch} {e : Env} {s : State} {m : MethodId} {args : Array Value} {below : List Frame} {meth : Method} {c : Code} {D : va_G} {A : Nat → Prop} {ad : Nat → Nat} {cy : CY} {z : CZ} {r0 : Int32} {σ0 : CS} (hc : cxB RX0 wsC cX0_copyFrom 3 none p s m args meth c) (hV : cV D cy z A s) (n : Nat) (K2 : CS → Int32 → Option ((Int32) × CS)) (hK2 : ∀ (σ : CS) (x2 : Int32) (H : Heap) (locs : List Loc) (ls : Array Slot), cB D ad cy A s.heap σ H locs → lv_has ls 3 [(0, .ref (ad 5)), (1, .ref (ad 18)), (2, .int x2)] → K2 σ x2 = some (r0, σ0) → W p l e rm_X0_copyFrom_5_18 s m args below meth c H locs 0 0 (MQ below (cQ D ad cy A none σ0) args s 0 0 A) (F0 m 2 ls [])) (σ : CS) (x2 : Int32) {H : Heap} {locs : List Loc} {ls : Array Slot} (hB : cB D ad cy A s.heap σ H locs) (hl : lv_has ls 3 [(0, .ref (ad 5)), (1, .ref (ad 18)), (2, .int x2)]) (hf : bc_X0_copyFrom_5_18_2 n K2 σ x2 = some (r0, σ0)) : W p l e rm_X0_copyFrom_5_18 s m args below meth c H locs 0 0 (MQ below (cQ D ad cy A none σ0) args s 0 0 A) (F0 m 2 ls []) := by
  obtain ⟨hx, hb, hml, hown, hts, hr, hlocks⟩ := id hc
  unfold bc_X0_copyFrom_5_18_2 at hf
  refine lv_iload_n hx hb dX0_copyFrom_2 rfl (lv_at hl 2 rfl) ?_
  refine lv_bipush (v := 6) hx hb dX0_copyFrom_3 (by decide) ?_
  refine lv_icmp_ge (tgt := 26) hx hb dX0_copyFrom_5 (by decide) (fun c1 => ?_) (fun c1 => ?_)
  · have hf := it_t hf c1
    refine lv_iconst (v := 0) hx hb dX0_copyFrom_26 (by decide) ?_
    refine lv_topi (fun y2 ey2 => ?_)
    have hf := sq_e hf y2 ey2
    refine lv_istore_n (lv' := [(2, .int y2), (0, .ref (ad 5)), (1, .ref (ad 18))]) hx hb dX0_copyFrom_27 rfl hl (by decide) rfl (fun ls hl => ?_)
    exact tlc_X0_copyFrom_5_18_28 hc hV n n σ y2 _ _ _ hB (lv_sub hl [1, 2, 0] rfl) hf
  · have hf := it_f hf c1
    refine lv_aload_n hx hb dX0_copyFrom_8 rfl (lv_at hl 0 rfl) ?_
    refine rc_get (own := RX0) hx hb hts inC_0 hown hV hB 5 (c34 rfl hB) (ceq_5 _ _ _) rfl 0 (Nat.le_of_ble_eq_true rfl) qf_X0_11 rfl dX0_copyFrom_9 ?_
    refine lv_iload_n hx hb dX0_copyFrom_12 rfl (lv_at hl 2 rfl) ?_
    refine lv_aload_n hx hb dX0_copyFrom_13 rfl (lv_at hl 1 rfl) ?_
    refine rc_get (own := RX0) hx hb hts inC_0 hown hV hB 18 (c34 rfl hB) (ceq_18 _ _ _) rfl 0 (Nat.le_of_ble_eq_true rfl) qf_X0_11 rfl dX0_copyFrom_14 ?_
    refine lv_iload_n hx hb dX0_copyFrom_17 rfl (lv_at hl 2 rfl) ?_
    obtain ⟨k3, hf⟩ := ck_e hf
    refine rc_aldq hx hb hV hB 19 (c34 rfl hB) 2 (ceq_19 _ _ _) rfl k3 dX0_copyFrom_18 (fun o4 eo4 => ?_)
    have hf := sq_e hf o4 eo4
    rcases o4 with _ | q6
    · have hf := oc_n hf
      obtain ⟨k7, hf⟩ := ck_e hf
      refine rc_astqN hx hb hV hB 6 (c34 rfl hB) 2 (ceq_6 _ _ _) rfl (fun _ => rfl) k7 dX0_copyFrom_19 (fun σ8 eσ8 H locs hB => ?_)
      have hf := sq_e hf σ8 eσ8
      obtain ⟨y9, ey9⟩ : ∃ z : Int32, z = x2 + 1 := ⟨_, rfl⟩
      have hf := sq_e hf y9 ey9
      refine lv_iinc (v := y9) (lv' := [(2, .int y9), (0, .ref (ad 5)), (1, .ref (ad 18))]) hx hb dX0_copyFrom_20 hl (k := 2) rfl (by rw [ey9]; rfl) (by decide) rfl (fun ls hl => ?_)
      refine lv_goto (tgt := 2) hx hb dX0_copyFrom_23 (by decide) ?_
      exact hK2 σ8 y9 _ _ _ hB (lv_sub hl [1, 2, 0] rfl) hf
    · have hf := oc_s hf
      obtain ⟨k12, hf⟩ := ck_e hf
      obtain ⟨k10, hf⟩ := ck_e hf
      refine rc_astq hx hb hV hB 6 (c34 rfl hB) 2 (ceq_6 _ _ _) rfl q6 (pk_s k12).2.1 (ceq_P k12) rfl rfl (fun _ => rfl) k10 dX0_copyFrom_19 (fun σ11 eσ11 H locs hB => ?_)
      have hf := sq_e hf σ11 eσ11
      obtain ⟨y13, ey13⟩ : ∃ z : Int32, z = x2 + 1 := ⟨_, rfl⟩
      have hf := sq_e hf y13 ey13
      refine lv_iinc (v := y13) (lv' := [(2, .int y13), (0, .ref (ad 5)), (1, .ref (ad 18))]) hx hb dX0_copyFrom_20 hl (k := 2) rfl (by rw [ey13]; rfl) (by decide) rfl (fun ls hl => ?_)
      refine lv_goto (tgt := 2) hx hb dX0_copyFrom_23 (by decide) ?_
      exact hK2 σ11 y13 _ _ _ hB (lv_sub hl [1, 2, 0] rfl) hf
def lc_X0_copyFrom_5_18_2 (n : Nat) : Nat → CS → Int32 → Option ((Int32) × CS)
  | 0 => fun _ _ => none
  | k + 1 => bc_X0_copyFrom_5_18_2 n (lc_X0_copyFrom_5_18_2 n k)
theorem tlc_X0_copyFrom_5_18_2 {p : Program} {l : Launch} {e : Env} {s : State} {m : MethodId} {args : Array Value} {below : List Frame} {meth : Method} {c : Code} {D : va_G} {A : Nat → Prop} {ad : Nat → Nat} {cy : CY} {z : CZ} {r0 : Int32} {σ0 : CS} (hc : cxB RX0 wsC cX0_copyFrom 3 none p s m args meth c) (hV : cV D cy z A s) (n : Nat) : ∀ (k : Nat) (σ : CS) (x2 : Int32) (H : Heap) (locs : List Loc) (ls : Array Slot), cB D ad cy A s.heap σ H locs → lv_has ls 3 [(0, .ref (ad 5)), (1, .ref (ad 18)), (2, .int x2)] → lc_X0_copyFrom_5_18_2 n k σ x2 = some (r0, σ0) → W p l e rm_X0_copyFrom_5_18 s m args below meth c H locs 0 0 (MQ below (cQ D ad cy A none σ0) args s 0 0 A) (F0 m 2 ls []) := by
  intro k
  induction k with
  | zero =>
    intro σ x2 H locs ls hB hl hf
    have hf : (none : Option ((Int32) × CS)) = some (r0, σ0) := hf
    cases hf
  | succ k ih =>
    intro σ x2 H locs ls hB hl hf
    exact tbc_X0_copyFrom_5_18_2 hc hV n (lc_X0_copyFrom_5_18_2 n k) ih σ x2 hB hl hf
def fc_X0_copyFrom_5_18 (n : Nat) (σ : CS) : Option ((Int32) × CS) := sq (0 : Int32) (fun y1 => lc_X0_copyFrom_5_18_2 n n σ y1)
set_option maxRecDepth 100000 in
set_option maxHeartbeats 4000000 in
theorem tbc_X0_copyFrom_5_18_0 {p : Program} {l : Launch} {e : Env} {s : State} {m : MethodId} {args : Array Value} {below : List Frame} {meth : Method} {c : Code} {D : va_G} {A : Nat → Prop} {ad : Nat → Nat} {cy : CY} {z : CZ} {r0 : Int32} {σ0 : CS} (hc : cxB RX0 wsC cX0_copyFrom 3 none p s m args meth c) (hV : cV D cy z A s) (n : Nat) (σ : CS) {H : Heap} {locs : List Loc} {ls : Array Slot} (hB : cB D ad cy A s.heap σ H locs) (hl : lv_has ls 3 [(0, .ref (ad 5)), (1, .ref (ad 18))]) (hf : fc_X0_copyFrom_5_18 n σ = some (r0, σ0)) : W p l e rm_X0_copyFrom_5_18 s m args below meth c H locs 0 0 (MQ below (cQ D ad cy A none σ0) args s 0 0 A) (F0 m 0 ls []) := by
  obtain ⟨hx, hb, hml, hown, hts, hr, hlocks⟩ := id hc
  unfold fc_X0_copyFrom_5_18 at hf
  refine lv_iconst (v := 0) hx hb dX0_copyFrom_0 (by decide) ?_
  refine lv_topi (fun y1 ey1 => ?_)
  have hf := sq_e hf y1 ey1
  refine lv_istore_n (lv' := [(2, .int y1), (0, .ref (ad 5)), (1, .ref (ad 18))]) hx hb dX0_copyFrom_1 rfl hl (by decide) rfl (fun ls hl => ?_)
  exact tlc_X0_copyFrom_5_18_2 hc hV n n σ y1 _ _ _ hB (lv_sub hl [1, 2, 0] rfl) hf
theorem cc_X0_copyFrom_5_18 (l : Launch) (D : va_G) (ad : Nat → Nat) (cy : CY) (z : CZ) (n : Nat) (σ : CS) {r0 : Int32} {σ0 : CS} (hf : fc_X0_copyFrom_5_18 n σ = some (r0, σ0)) : cM l yX0_copyFrom wn_X0_copyFrom rm_X0_copyFrom_5_18 D ad cy z [.ref (ad 5), .ref (ad 18)] σ none σ0 :=
  rc_met (ret := none) (by decide) rfl (Nat.le_of_ble_eq_true rfl) (fun p e s m below meth c A ls hc hV hB hl => tbc_X0_copyFrom_5_18_0 hc hV n σ hB hl hf)
/-! X1_joined -/
abbrev rm_X1_joined : Room := { frames := 0, cells := 0, slots := 0, locals := 0 }
abbrev wn_X1_joined : List Cond := .code yX1_joined cX1_joined 3 (some .int) :: wsC
def fc_X1_joined (n : Nat) (σ : CS) (x0 : Int32) (x1 : Int32) (x2 : Int32) : Option ((Int32) × CS) := if (x0 = 42) then (some ((x1 * x2), σ)) else (if (x0 = 43) then (some ((x1 + x2), σ)) else (if (x0 = 45) then (some ((x1 - x2), σ)) else (if (x2 = 0) then (some (0, σ)) else (ck (decide (¬ (x2 = 0))) (some ((x1 / x2), σ))))))
set_option maxRecDepth 100000 in
set_option maxHeartbeats 4000000 in
theorem tbc_X1_joined_0 {p : Program} {l : Launch} {e : Env} {s : State} {m : MethodId} {args : Array Value} {below : List Frame} {meth : Method} {c : Code} {D : va_G} {A : Nat → Prop} {ad : Nat → Nat} {cy : CY} {z : CZ} {r0 : Int32} {σ0 : CS} (hc : cxB RX1 wsC cX1_joined 3 (some .int) p s m args meth c) (hV : cV D cy z A s) (n : Nat) (σ : CS) (x0 : Int32) (x1 : Int32) (x2 : Int32) {H : Heap} {locs : List Loc} {ls : Array Slot} (hB : cB D ad cy A s.heap σ H locs) (hl : lv_has ls 3 [(0, .int x0), (1, .int x1), (2, .int x2)]) (hf : fc_X1_joined n σ x0 x1 x2 = some (r0, σ0)) : W p l e rm_X1_joined s m args below meth c H locs 0 0 (MQ below (cQ D ad cy A (some (.int r0)) σ0) args s 0 0 A) (F0 m 0 ls []) := by
  obtain ⟨hx, hb, hml, hown, hts, hr, hlocks⟩ := id hc
  unfold fc_X1_joined at hf
  refine lv_iload_n hx hb dX1_joined_0 rfl (lv_at hl 0 rfl) ?_
  by_cases c3 : x0 = 42
  · have hf := it_t hf c3
    refine lv_tableIn (tgt := 40) hx hb dX1_joined_1 (by rw [c3]; decide) (by rw [c3]; decide) (by rw [c3]; rfl) (by decide) ?_
    refine lv_iload_n hx hb dX1_joined_40 rfl (lv_at hl 1 rfl) ?_
    refine lv_iload_n hx hb dX1_joined_41 rfl (lv_at hl 2 rfl) ?_
    refine lv_imul hx hb dX1_joined_42 ?_
    obtain ⟨rfl, rfl⟩ := so_e hf
    exact rc_iret hx hb hr hlocks hB dX1_joined_43
  · have hf := it_f hf c3
    by_cases c4 : x0 = 43
    · have hf := it_t hf c4
      refine lv_tableIn (tgt := 32) hx hb dX1_joined_1 (by rw [c4]; decide) (by rw [c4]; decide) (by rw [c4]; rfl) (by decide) ?_
      refine lv_iload_n hx hb dX1_joined_32 rfl (lv_at hl 1 rfl) ?_
      refine lv_iload_n hx hb dX1_joined_33 rfl (lv_at hl 2 rfl) ?_
      refine lv_iadd hx hb dX1_joined_34 ?_
      obtain ⟨rfl, rfl⟩ := so_e hf
      exact rc_iret hx hb hr hlocks hB dX1_joined_35
    · have hf := it_f hf c4
      by_cases c5 : x0 = 45
      · have hf := it_t hf c5
        refine lv_tableIn (tgt := 36) hx hb dX1_joined_1 (by rw [c5]; decide) (by rw [c5]; decide) (by rw [c5]; rfl) (by decide) ?_
        refine lv_iload_n hx hb dX1_joined_36 rfl (lv_at hl 1 rfl) ?_
        refine lv_iload_n hx hb dX1_joined_37 rfl (lv_at hl 2 rfl) ?_
        refine lv_isub hx hb dX1_joined_38 ?_
        obtain ⟨rfl, rfl⟩ := so_e hf
        exact rc_iret hx hb hr hlocks hB dX1_joined_39
      · have hf := it_f hf c5
        refine sw_d (tgt := 44) hx hb dX1_joined_1 (by have n_42 := lv_neT c3 (a := 42) (by decide); have n_43 := lv_neT c4 (a := 43) (by decide); have n_45 := lv_neT c5 (a := 45) (by decide); rcases (show (x0).toInt < 42 ∨ 45 < (x0).toInt ∨ (x0).toInt = 44 by omega) with q | q | q; exact Or.inl q; exact Or.inr (Or.inl q); exact Or.inr (Or.inr (by rw [q]; rfl))) (by decide) ?_
        refine lv_iload_n hx hb dX1_joined_44 rfl (lv_at hl 2 rfl) ?_
        refine lv_if_ne (tgt := 52) hx hb dX1_joined_45 (by decide) (fun c1 => ?_) (fun c1 => ?_)
        · have hf := it_f hf c1
          refine lv_iload_n hx hb dX1_joined_52 rfl (lv_at hl 1 rfl) ?_
          refine lv_iload_n hx hb dX1_joined_53 rfl (lv_at hl 2 rfl) ?_
          obtain ⟨k2, hf⟩ := ck_e hf
          refine lv_idiv hx hb dX1_joined_54 (of_decide_eq_true k2) ?_
          obtain ⟨rfl, rfl⟩ := so_e hf
          exact rc_iret hx hb hr hlocks hB dX1_joined_55
        · have hf := it_t hf c1
          refine lv_iconst (v := 0) hx hb dX1_joined_48 (by decide) ?_
          refine lv_goto (tgt := 55) hx hb dX1_joined_49 (by decide) ?_
          obtain ⟨rfl, rfl⟩ := so_e hf
          exact rc_iret hx hb hr hlocks hB dX1_joined_55
theorem cc_X1_joined (l : Launch) (D : va_G) (ad : Nat → Nat) (cy : CY) (z : CZ) (n : Nat) (σ : CS) (x0 : Int32) (x1 : Int32) (x2 : Int32) {r0 : Int32} {σ0 : CS} (hf : fc_X1_joined n σ x0 x1 x2 = some (r0, σ0)) : cM l yX1_joined wn_X1_joined rm_X1_joined D ad cy z [.int x0, .int x1, .int x2] σ (some (.int r0)) σ0 :=
  rc_met (ret := (some .int)) (by decide) rfl (Nat.le_of_ble_eq_true rfl) (fun p e s m below meth c A ls hc hV hB hl => tbc_X1_joined_0 hc hV n σ x0 x1 x2 hB hl hf)
/-! X1_byLaw -/
theorem kwc_X1_28 {R : Room} {s : State} {args : Array Value} (hts : ∀ w ∈ wsC, w.before args s = true) (hR : rm_X1_joined.frames + 1 ≤ R.frames ∧ 8 + (3 + 11) + rm_X1_joined.locals ≤ R.locals) : CallB R s args RX1 28 yX1_joined cX1_joined 3 (some .int) wn_X1_joined rm_X1_joined 0 0 3 ∧ (Cond.static yX1_joined).before args s = true := va_cwS 3 hts (gC_s qc_74 qc_75 qc_76 qc_66) rfl rfl rfl (by decide +kernel) hR
abbrev rm_X1_byLaw : Room := { frames := 1, cells := 0, slots := 0, locals := 60 }
abbrev wn_X1_byLaw : List Cond := .code yX1_byLaw cX1_byLaw 8 (some .int) :: wsC
def bc_X1_byLaw_14 (n : Nat) (K14 : CS → Nat → Int32 → Nat → Int32 → Int32 → Option ((Int32) × CS)) (σ : CS) (x0 : Nat) (x2 : Int32) (x3 : Nat) (x4 : Int32) (x5 : Int32) : Option ((Int32) × CS) := if (x4 ≤ x5) then (ck (pk σ x0 1) (od (σ.2.2.1 x0 4) (fun q3 => ck (pk σ q3 9) (ck (ib 0 (σ.2.2.2.2.1 q3)) (sq ((σ.1 q3 (Int32.toNatClampNeg 0)) : Int32) (fun y6 => sq (if y6 < 9999 then y6 else 9999 : Int32) (fun y7 => sq (if 0 < y7 then y7 else 0 : Int32) (fun y8 => some (y8, σ))))))))) else (ck (pk σ x3 9) (ck (ib x5 (σ.2.2.2.2.1 x3)) (sq ((σ.1 x3 (Int32.toNatClampNeg x5)) : Int32) (fun y11 => if (0 ≤ y11) then (ck (pk σ x0 1) (od (σ.2.2.1 x0 4) (fun q14 => ck (pk σ q14 9) (if ((Int32.ofNat (σ.2.2.2.2.1 q14)) ≤ (x2 + 1)) then (sq (x5 + 1 : Int32) (fun y17 => K14 σ x0 x2 x3 x4 y17)) else (sq (x2 + 1 : Int32) (fun y18 => sq ((y11 - 1000) : Int32) (fun y19 => ck (pk σ x0 1) (od (σ.2.2.1 x0 4) (fun q21 => if (y19 < 0) then (ck (pk σ q21 9) (ck (ib y18 (σ.2.2.2.2.1 q21)) (sq (cp σ q21 (Int32.toNatClampNeg y18) y11) (fun σ25 => sq (x5 + 1 : Int32) (fun y26 => K14 σ25 x0 y18 x3 x4 y26))))) else (if ((Int32.ofNat 8) ≤ y19) then (ck (pk σ q21 9) (ck (ib y18 (σ.2.2.2.2.1 q21)) (sq (cp σ q21 (Int32.toNatClampNeg y18) y11) (fun σ30 => sq (x5 + 1 : Int32) (fun y31 => K14 σ30 x0 y18 x3 x4 y31))))) else (ck (ib y19 8) (sq ((σ.1 32 (Int32.toNatClampNeg y19)) : Int32) (fun y33 => ck (pk σ q21 9) (ck (ib y18 (σ.2.2.2.2.1 q21)) (sq (cp σ q21 (Int32.toNatClampNeg y18) y33) (fun σ36 => sq (x5 + 1 : Int32) (fun y37 => K14 σ36 x0 y18 x3 x4 y37))))))))))))))))) else (if (x2 < 1) then (sq (x5 + 1 : Int32) (fun y39 => K14 σ x0 x2 x3 x4 y39)) else (ck (pk σ x0 1) (od (σ.2.2.1 x0 4) (fun q41 => ck (pk σ q41 9) (if ((Int32.ofNat (σ.2.2.2.2.1 q41)) ≤ x2) then (sq (x5 + 1 : Int32) (fun y44 => K14 σ x0 x2 x3 x4 y44)) else (sq (x2 + (-1) : Int32) (fun y45 => ck (pk σ x0 1) (od (σ.2.2.1 x0 4) (fun q47 => ck (pk σ x0 1) (od (σ.2.2.1 x0 4) (fun q49 => ck (pk σ q49 9) (ck (ib y45 (σ.2.2.2.2.1 q49)) (sq ((σ.1 q49 (Int32.toNatClampNeg y45)) : Int32) (fun y52 => ck (pk σ x0 1) (od (σ.2.2.1 x0 4) (fun q54 => ck (pk σ q54 9) (ck (ib (y45 + 1) (σ.2.2.2.2.1 q54)) (sq ((σ.1 q54 (Int32.toNatClampNeg (y45 + 1))) : Int32) (fun y57 => bd (fc_X1_joined n σ (-y11) y52 y57) (fun r58 σ59 => ck (pk σ59 q47 9) (ck (ib y45 (σ59.2.2.2.2.1 q47)) (sq (cp σ59 q47 (Int32.toNatClampNeg y45) r58) (fun σ62 => sq (x5 + 1 : Int32) (fun y63 => K14 σ62 x0 y45 x3 x4 y63))))))))))))))))))))))))))))
set_option maxRecDepth 100000 in
set_option maxHeartbeats 4000000 in
theorem tbc_X1_byLaw_14 {p : Program} {l : Launch} {e : Env} {s : State} {m : MethodId} {args : Array Value} {below : List Frame} {meth : Method} {c : Code} {D : va_G} {A : Nat → Prop} {ad : Nat → Nat} {cy : CY} {z : CZ} {r0 : Int32} {σ0 : CS} (hc : cxB RX1 wsC cX1_byLaw 8 (some .int) p s m args meth c) (hV : cV D cy z A s) (n : Nat) (K14 : CS → Nat → Int32 → Nat → Int32 → Int32 → Option ((Int32) × CS)) (hK14 : ∀ (σ : CS) (x0 : Nat) (x2 : Int32) (x3 : Nat) (x4 : Int32) (x5 : Int32) (H : Heap) (locs : List Loc) (ls : Array Slot), cB D ad cy A s.heap σ H locs → lv_has ls 8 [(0, .ref (ad x0)), (1, .ref (ad 32)), (2, .int x2), (3, .ref (ad x3)), (4, .int x4), (5, .int x5)] → K14 σ x0 x2 x3 x4 x5 = some (r0, σ0) → W p l e rm_X1_byLaw s m args below meth c H locs 0 0 (MQ below (cQ D ad cy A (some (.int r0)) σ0) args s 0 0 A) (F0 m 14 ls [])) (σ : CS) (x0 : Nat) (x2 : Int32) (x3 : Nat) (x4 : Int32) (x5 : Int32) {H : Heap} {locs : List Loc} {ls : Array Slot} (hB : cB D ad cy A s.heap σ H locs) (hl : lv_has ls 8 [(0, .ref (ad x0)), (1, .ref (ad 32)), (2, .int x2), (3, .ref (ad x3)), (4, .int x4), (5, .int x5)]) (hf : bc_X1_byLaw_14 n K14 σ x0 x2 x3 x4 x5 = some (r0, σ0)) : W p l e rm_X1_byLaw s m args below meth c H locs 0 0 (MQ below (cQ D ad cy A (some (.int r0)) σ0) args s 0 0 A) (F0 m 14 ls []) := by
  obtain ⟨hx, hb, hml, hown, hts, hr, hlocks⟩ := id hc
  unfold bc_X1_byLaw_14 at hf
  refine lv_iload hx hb dX1_byLaw_14 (lv_at hl 5 rfl) ?_
  refine lv_iload hx hb dX1_byLaw_16 (lv_at hl 4 rfl) ?_
  refine lv_icmp_ge (tgt := 133) hx hb dX1_byLaw_18 (by decide) (fun c1 => ?_) (fun c1 => ?_)
  · have hf := it_t hf c1
    refine lv_iconst (v := 0) hx hb dX1_byLaw_133 (by decide) ?_
    refine lv_sipush (v := 9999) hx hb dX1_byLaw_134 (by decide) ?_
    refine lv_aload_n hx hb dX1_byLaw_137 rfl (lv_at hl 0 rfl) ?_
    obtain ⟨k2, hf⟩ := ck_e hf
    obtain ⟨q3, hq3, hf⟩ := od_e hf
    refine rc_get (own := RX1) hx hb hts inC_1 hown hV hB x0 (pk_s k2).2.1 (ceq_L k2) rfl 4 (Nat.le_of_ble_eq_true rfl) qf_X1_25 (v := .ref (ad q3)) (by rw [show (.ref (ad q3) : Value) = va_rf (Option.map ad (σ.2.2.1 x0 4)) by rw [hq3]; rfl]; rfl) dX1_byLaw_138 ?_
    refine lv_iconst (v := 0) hx hb dX1_byLaw_141 (by decide) ?_
    obtain ⟨k4, hf⟩ := ck_e hf
    obtain ⟨k5, hf⟩ := ck_e hf
    refine rc_ald hx hb hV hB q3 (pk_s k4).2.1 (ceq_A k4) k5 dX1_byLaw_142 ?_
    refine lv_topi (fun y6 ey6 => ?_)
    have hf := sq_e hf y6 ey6
    refine va_mmin hx hb (hml.trans hl.1.symm) hown (hts _ qc_67) (hts _ qc_68) (hts _ qc_69) (hts _ qc_70) (Nat.le_of_ble_eq_true rfl) (Nat.le_of_ble_eq_true rfl) (Nat.le_refl _) (Nat.le_refl _) dX1_byLaw_143 ?_
    refine lv_topi (fun y7 ey7 => ?_)
    have hf := sq_e hf y7 ey7
    refine va_mmax hx hb (hml.trans hl.1.symm) hown (hts _ qc_71) (hts _ qc_72) (hts _ qc_69) (hts _ qc_73) (Nat.le_of_ble_eq_true rfl) (Nat.le_of_ble_eq_true rfl) (Nat.le_refl _) (Nat.le_refl _) dX1_byLaw_146 ?_
    refine lv_topi (fun y8 ey8 => ?_)
    have hf := sq_e hf y8 ey8
    obtain ⟨rfl, rfl⟩ := so_e hf
    exact rc_iret hx hb hr hlocks hB dX1_byLaw_149
  · have hf := it_f hf c1
    refine lv_aload_n hx hb dX1_byLaw_21 rfl (lv_at hl 3 rfl) ?_
    refine lv_iload hx hb dX1_byLaw_22 (lv_at hl 5 rfl) ?_
    obtain ⟨k9, hf⟩ := ck_e hf
    obtain ⟨k10, hf⟩ := ck_e hf
    refine rc_ald hx hb hV hB x3 (pk_s k9).2.1 (ceq_A k9) k10 dX1_byLaw_24 ?_
    refine lv_topi (fun y11 ey11 => ?_)
    have hf := sq_e hf y11 ey11
    refine lv_istore (lv' := [(6, .int y11), (0, .ref (ad x0)), (1, .ref (ad 32)), (2, .int x2), (3, .ref (ad x3)), (4, .int x4), (5, .int x5)]) hx hb dX1_byLaw_25 hl (by decide) rfl (fun ls hl => ?_)
    refine lv_iload hx hb dX1_byLaw_27 (lv_at hl 0 rfl) ?_
    refine lv_if_ge (tgt := 78) hx hb dX1_byLaw_29 (by decide) (fun c12 => ?_) (fun c12 => ?_)
    · have hf := it_t hf c12
      refine lv_iload_n hx hb dX1_byLaw_78 rfl (lv_at hl 3 rfl) ?_
      refine lv_iconst (v := 1) hx hb dX1_byLaw_79 (by decide) ?_
      refine lv_iadd hx hb dX1_byLaw_80 ?_
      refine lv_aload_n hx hb dX1_byLaw_81 rfl (lv_at hl 1 rfl) ?_
      obtain ⟨k13, hf⟩ := ck_e hf
      obtain ⟨q14, hq14, hf⟩ := od_e hf
      refine rc_get (own := RX1) hx hb hts inC_1 hown hV hB x0 (pk_s k13).2.1 (ceq_L k13) rfl 4 (Nat.le_of_ble_eq_true rfl) qf_X1_25 (v := .ref (ad q14)) (by rw [show (.ref (ad q14) : Value) = va_rf (Option.map ad (σ.2.2.1 x0 4)) by rw [hq14]; rfl]; rfl) dX1_byLaw_82 ?_
      obtain ⟨k15, hf⟩ := ck_e hf
      refine rc_alen hx hb hV hB q14 (pk_s k15).2.1 (ceq_A k15) rfl dX1_byLaw_85 ?_
      refine lv_icmp_ge (tgt := 127) hx hb dX1_byLaw_86 (by decide) (fun c16 => ?_) (fun c16 => ?_)
      · have hf := it_t hf c16
        obtain ⟨y17, ey17⟩ : ∃ z : Int32, z = x5 + 1 := ⟨_, rfl⟩
        have hf := sq_e hf y17 ey17
        refine lv_iinc (v := y17) (lv' := [(5, .int y17), (6, .int y11), (0, .ref (ad x0)), (1, .ref (ad 32)), (2, .int x2), (3, .ref (ad x3)), (4, .int x4)]) hx hb dX1_byLaw_127 hl (k := 6) rfl (by rw [ey17]; rfl) (by decide) rfl (fun ls hl => ?_)
        refine lv_goto (tgt := 14) hx hb dX1_byLaw_130 (by decide) ?_
        exact hK14 σ x0 x2 x3 x4 y17 _ _ _ hB (lv_sub hl [2, 3, 4, 5, 6, 0] rfl) hf
      · have hf := it_f hf c16
        obtain ⟨y18, ey18⟩ : ∃ z : Int32, z = x2 + 1 := ⟨_, rfl⟩
        have hf := sq_e hf y18 ey18
        refine lv_iinc (v := y18) (lv' := [(2, .int y18), (6, .int y11), (0, .ref (ad x0)), (1, .ref (ad 32)), (3, .ref (ad x3)), (4, .int x4), (5, .int x5)]) hx hb dX1_byLaw_89 hl (k := 3) rfl (by rw [ey18]; rfl) (by decide) rfl (fun ls hl => ?_)
        refine lv_iload hx hb dX1_byLaw_92 (lv_at hl 1 rfl) ?_
        refine lv_sipush (v := 1000) hx hb dX1_byLaw_94 (by decide) ?_
        refine lv_isub hx hb dX1_byLaw_97 ?_
        refine lv_topi (fun y19 ey19 => ?_)
        have hf := sq_e hf y19 ey19
        refine lv_istore (lv' := [(7, .int y19), (2, .int y18), (6, .int y11), (0, .ref (ad x0)), (1, .ref (ad 32)), (3, .ref (ad x3)), (4, .int x4), (5, .int x5)]) hx hb dX1_byLaw_98 hl (by decide) rfl (fun ls hl => ?_)
        refine lv_aload_n hx hb dX1_byLaw_100 rfl (lv_at hl 3 rfl) ?_
        obtain ⟨k20, hf⟩ := ck_e hf
        obtain ⟨q21, hq21, hf⟩ := od_e hf
        refine rc_get (own := RX1) hx hb hts inC_1 hown hV hB x0 (pk_s k20).2.1 (ceq_L k20) rfl 4 (Nat.le_of_ble_eq_true rfl) qf_X1_25 (v := .ref (ad q21)) (by rw [show (.ref (ad q21) : Value) = va_rf (Option.map ad (σ.2.2.1 x0 4)) by rw [hq21]; rfl]; rfl) dX1_byLaw_101 ?_
        refine lv_iload_n hx hb dX1_byLaw_104 rfl (lv_at hl 1 rfl) ?_
        refine lv_iload hx hb dX1_byLaw_105 (lv_at hl 0 rfl) ?_
        refine lv_if_lt (tgt := 124) hx hb dX1_byLaw_107 (by decide) (fun c22 => ?_) (fun c22 => ?_)
        · have hf := it_t hf c22
          refine lv_iload hx hb dX1_byLaw_124 (lv_at hl 2 rfl) ?_
          obtain ⟨k23, hf⟩ := ck_e hf
          obtain ⟨k24, hf⟩ := ck_e hf
          refine rc_ast hx hb hV hB q21 (pk_s k23).2.1 (ceq_A k23) (fun _ => cst_A k23) k24 dX1_byLaw_126 (fun σ25 eσ25 H locs hB => ?_)
          have hf := sq_e hf σ25 eσ25
          obtain ⟨y26, ey26⟩ : ∃ z : Int32, z = x5 + 1 := ⟨_, rfl⟩
          have hf := sq_e hf y26 ey26
          refine lv_iinc (v := y26) (lv' := [(5, .int y26), (7, .int y19), (2, .int y18), (6, .int y11), (0, .ref (ad x0)), (1, .ref (ad 32)), (3, .ref (ad x3)), (4, .int x4)]) hx hb dX1_byLaw_127 hl (k := 7) rfl (by rw [ey26]; rfl) (by decide) rfl (fun ls hl => ?_)
          refine lv_goto (tgt := 14) hx hb dX1_byLaw_130 (by decide) ?_
          exact hK14 σ25 x0 y18 x3 x4 y26 _ _ _ hB (lv_sub hl [4, 5, 2, 6, 7, 0] rfl) hf
        · have hf := it_f hf c22
          refine lv_iload hx hb dX1_byLaw_110 (lv_at hl 0 rfl) ?_
          refine lv_aload_n hx hb dX1_byLaw_112 rfl (lv_at hl 4 rfl) ?_
          refine rc_alen hx hb hV hB 32 (c34 rfl hB) (ceq_32 _ _ _) rfl dX1_byLaw_113 ?_
          refine lv_icmp_ge (tgt := 124) hx hb dX1_byLaw_114 (by decide) (fun c27 => ?_) (fun c27 => ?_)
          · have hf := it_t hf c27
            refine lv_iload hx hb dX1_byLaw_124 (lv_at hl 2 rfl) ?_
            obtain ⟨k28, hf⟩ := ck_e hf
            obtain ⟨k29, hf⟩ := ck_e hf
            refine rc_ast hx hb hV hB q21 (pk_s k28).2.1 (ceq_A k28) (fun _ => cst_A k28) k29 dX1_byLaw_126 (fun σ30 eσ30 H locs hB => ?_)
            have hf := sq_e hf σ30 eσ30
            obtain ⟨y31, ey31⟩ : ∃ z : Int32, z = x5 + 1 := ⟨_, rfl⟩
            have hf := sq_e hf y31 ey31
            refine lv_iinc (v := y31) (lv' := [(5, .int y31), (7, .int y19), (2, .int y18), (6, .int y11), (0, .ref (ad x0)), (1, .ref (ad 32)), (3, .ref (ad x3)), (4, .int x4)]) hx hb dX1_byLaw_127 hl (k := 7) rfl (by rw [ey31]; rfl) (by decide) rfl (fun ls hl => ?_)
            refine lv_goto (tgt := 14) hx hb dX1_byLaw_130 (by decide) ?_
            exact hK14 σ30 x0 y18 x3 x4 y31 _ _ _ hB (lv_sub hl [4, 5, 2, 6, 7, 0] rfl) hf
          · have hf := it_f hf c27
            refine lv_aload_n hx hb dX1_byLaw_117 rfl (lv_at hl 4 rfl) ?_
            refine lv_iload hx hb dX1_byLaw_118 (lv_at hl 0 rfl) ?_
            obtain ⟨k32, hf⟩ := ck_e hf
            refine rc_ald hx hb hV hB 32 (c34 rfl hB) (ceq_32 _ _ _) k32 dX1_byLaw_120 ?_
            refine lv_topi (fun y33 ey33 => ?_)
            have hf := sq_e hf y33 ey33
            refine lv_goto (tgt := 126) hx hb dX1_byLaw_121 (by decide) ?_
            obtain ⟨k34, hf⟩ := ck_e hf
            obtain ⟨k35, hf⟩ := ck_e hf
            refine rc_ast hx hb hV hB q21 (pk_s k34).2.1 (ceq_A k34) (fun _ => cst_A k34) k35 dX1_byLaw_126 (fun σ36 eσ36 H locs hB => ?_)
            have hf := sq_e hf σ36 eσ36
            obtain ⟨y37, ey37⟩ : ∃ z : Int32, z = x5 + 1 := ⟨_, rfl⟩
            have hf := sq_e hf y37 ey37
            refine lv_iinc (v := y37) (lv' := [(5, .int y37), (7, .int y19), (2, .int y18), (6, .int y11), (0, .ref (ad x0)), (1, .ref (ad 32)), (3, .ref (ad x3)), (4, .int x4)]) hx hb dX1_byLaw_127 hl (k := 7) rfl (by rw [ey37]; rfl) (by decide) rfl (fun ls hl => ?_)
            refine lv_goto (tgt := 14) hx hb dX1_byLaw_130 (by decide) ?_
            exact hK14 σ36 x0 y18 x3 x4 y37 _ _ _ hB (lv_sub hl [4, 5, 2, 6, 7, 0] rfl) hf
    · have hf := it_f hf c12
      refine lv_iload_n hx hb dX1_byLaw_32 rfl (lv_at hl 3 rfl) ?_
      refine lv_iconst (v := 1) hx hb dX1_byLaw_33 (by decide) ?_
      refine lv_icmp_lt (tgt := 127) hx hb dX1_byLaw_34 (by decide) (fun c38 => ?_) (fun c38 => ?_)
      · have hf := it_t hf c38
        obtain ⟨y39, ey39⟩ : ∃ z : Int32, z = x5 + 1 := ⟨_, rfl⟩
        have hf := sq_e hf y39 ey39
        refine lv_iinc (v := y39) (lv' := [(5, .int y39), (6, .int y11), (0, .ref (ad x0)), (1, .ref (ad 32)), (2, .int x2), (3, .ref (ad x3)), (4, .int x4)]) hx hb dX1_byLaw_127 hl (k := 6) rfl (by rw [ey39]; rfl) (by decide) rfl (fun ls hl => ?_)
        refine lv_goto (tgt := 14) hx hb dX1_byLaw_130 (by decide) ?_
        exact hK14 σ x0 x2 x3 x4 y39 _ _ _ hB (lv_sub hl [2, 3, 4, 5, 6, 0] rfl) hf
      · have hf := it_f hf c38
        refine lv_iload_n hx hb dX1_byLaw_37 rfl (lv_at hl 3 rfl) ?_
        refine lv_aload_n hx hb dX1_byLaw_38 rfl (lv_at hl 1 rfl) ?_
        obtain ⟨k40, hf⟩ := ck_e hf
        obtain ⟨q41, hq41, hf⟩ := od_e hf
        refine rc_get (own := RX1) hx hb hts inC_1 hown hV hB x0 (pk_s k40).2.1 (ceq_L k40) rfl 4 (Nat.le_of_ble_eq_true rfl) qf_X1_25 (v := .ref (ad q41)) (by rw [show (.ref (ad q41) : Value) = va_rf (Option.map ad (σ.2.2.1 x0 4)) by rw [hq41]; rfl]; rfl) dX1_byLaw_39 ?_
        obtain ⟨k42, hf⟩ := ck_e hf
        refine rc_alen hx hb hV hB q41 (pk_s k42).2.1 (ceq_A k42) rfl dX1_byLaw_42 ?_
        refine lv_icmp_ge (tgt := 127) hx hb dX1_byLaw_43 (by decide) (fun c43 => ?_) (fun c43 => ?_)
        · have hf := it_t hf c43
          obtain ⟨y44, ey44⟩ : ∃ z : Int32, z = x5 + 1 := ⟨_, rfl⟩
          have hf := sq_e hf y44 ey44
          refine lv_iinc (v := y44) (lv' := [(5, .int y44), (6, .int y11), (0, .ref (ad x0)), (1, .ref (ad 32)), (2, .int x2), (3, .ref (ad x3)), (4, .int x4)]) hx hb dX1_byLaw_127 hl (k := 6) rfl (by rw [ey44]; rfl) (by decide) rfl (fun ls hl => ?_)
          refine lv_goto (tgt := 14) hx hb dX1_byLaw_130 (by decide) ?_
          exact hK14 σ x0 x2 x3 x4 y44 _ _ _ hB (lv_sub hl [2, 3, 4, 5, 6, 0] rfl) hf
        · have hf := it_f hf c43
          obtain ⟨y45, ey45⟩ : ∃ z : Int32, z = x2 + (-1) := ⟨_, rfl⟩
          have hf := sq_e hf y45 ey45
          refine lv_iinc (v := y45) (lv' := [(2, .int y45), (6, .int y11), (0, .ref (ad x0)), (1, .ref (ad 32)), (3, .ref (ad x3)), (4, .int x4), (5, .int x5)]) hx hb dX1_byLaw_46 hl (k := 3) rfl (by rw [ey45]; rfl) (by decide) rfl (fun ls hl => ?_)
          refine lv_aload_n hx hb dX1_byLaw_49 rfl (lv_at hl 2 rfl) ?_
          obtain ⟨k46, hf⟩ := ck_e hf
          obtain ⟨q47, hq47, hf⟩ := od_e hf
          refine rc_get (own := RX1) hx hb hts inC_1 hown hV hB x0 (pk_s k46).2.1 (ceq_L k46) rfl 4 (Nat.le_of_ble_eq_true rfl) qf_X1_25 (v := .ref (ad q47)) (by rw [show (.ref (ad q47) : Value) = va_rf (Option.map ad (σ.2.2.1 x0 4)) by rw [hq47]; rfl]; rfl) dX1_byLaw_50 ?_
          refine lv_iload_n hx hb dX1_byLaw_53 rfl (lv_at hl 0 rfl) ?_
          refine lv_iload hx hb dX1_byLaw_54 (lv_at hl 1 rfl) ?_
          refine lv_ineg hx hb dX1_byLaw_56 ?_
          refine lv_aload_n hx hb dX1_byLaw_57 rfl (lv_at hl 2 rfl) ?_
          obtain ⟨k48, hf⟩ := ck_e hf
          obtain ⟨q49, hq49, hf⟩ := od_e hf
          refine rc_get (own := RX1) hx hb hts inC_1 hown hV hB x0 (pk_s k48).2.1 (ceq_L k48) rfl 4 (Nat.le_of_ble_eq_true rfl) qf_X1_25 (v := .ref (ad q49)) (by rw [show (.ref (ad q49) : Value) = va_rf (Option.map ad (σ.2.2.1 x0 4)) by rw [hq49]; rfl]; rfl) dX1_byLaw_58 ?_
          refine lv_iload_n hx hb dX1_byLaw_61 rfl (lv_at hl 0 rfl) ?_
          obtain ⟨k50, hf⟩ := ck_e hf
          obtain ⟨k51, hf⟩ := ck_e hf
          refine rc_ald hx hb hV hB q49 (pk_s k50).2.1 (ceq_A k50) k51 dX1_byLaw_62 ?_
          refine lv_topi (fun y52 ey52 => ?_)
          have hf := sq_e hf y52 ey52
          refine lv_aload_n hx hb dX1_byLaw_63 rfl (lv_at hl 2 rfl) ?_
          obtain ⟨k53, hf⟩ := ck_e hf
          obtain ⟨q54, hq54, hf⟩ := od_e hf
          refine rc_get (own := RX1) hx hb hts inC_1 hown hV hB x0 (pk_s k53).2.1 (ceq_L k53) rfl 4 (Nat.le_of_ble_eq_true rfl) qf_X1_25 (v := .ref (ad q54)) (by rw [show (.ref (ad q54) : Value) = va_rf (Option.map ad (σ.2.2.1 x0 4)) by rw [hq54]; rfl]; rfl) dX1_byLaw_64 ?_
          refine lv_iload_n hx hb dX1_byLaw_67 rfl (lv_at hl 0 rfl) ?_
          refine lv_iconst (v := 1) hx hb dX1_byLaw_68 (by decide) ?_
          refine lv_iadd hx hb dX1_byLaw_69 ?_
          obtain ⟨k55, hf⟩ := ck_e hf
          obtain ⟨k56, hf⟩ := ck_e hf
          refine rc_ald hx hb hV hB q54 (pk_s k55).2.1 (ceq_A k55) k56 dX1_byLaw_70 ?_
          refine lv_topi (fun y57 ey57 => ?_)
          have hf := sq_e hf y57 ey57
          obtain ⟨r58, σ59, hkr58, hf⟩ := bd_e hf
          refine rc_callS (own := RX1) (av := [.int (-y11), .int y52, .int y57]) (rest := [.int y45, .ref (ad q47)]) (rv := (some (.int r58))) hx hb hml hown hts hl.1 hV hB (cc_X1_joined l D ad cy z n σ (-y11) y52 y57 hkr58) (kwc_X1_28  hts ⟨Nat.le_of_ble_eq_true rfl, Nat.le_of_ble_eq_true rfl⟩) rfl rfl (lv_room (Nat.le_of_ble_eq_true rfl)) dX1_byLaw_71 (Nat.le_refl _) (Nat.le_refl _) (fun H locs hB => ?_)
          refine W.eq (g2 := F0 m 74 ls [.int r58, .int y45, .ref (ad q47)]) rfl ?_
          obtain ⟨k60, hf⟩ := ck_e hf
          obtain ⟨k61, hf⟩ := ck_e hf
          refine rc_ast hx hb hV hB q47 (pk_s k60).2.1 (ceq_A k60) (fun _ => cst_A k60) k61 dX1_byLaw_74 (fun σ62 eσ62 H locs hB => ?_)
          have hf := sq_e hf σ62 eσ62
          refine lv_goto (tgt := 127) hx hb dX1_byLaw_75 (by decide) ?_
          obtain ⟨y63, ey63⟩ : ∃ z : Int32, z = x5 + 1 := ⟨_, rfl⟩
          have hf := sq_e hf y63 ey63
          refine lv_iinc (v := y63) (lv' := [(5, .int y63), (2, .int y45), (6, .int y11), (0, .ref (ad x0)), (1, .ref (ad 32)), (3, .ref (ad x3)), (4, .int x4)]) hx hb dX1_byLaw_127 hl (k := 6) rfl (by rw [ey63]; rfl) (by decide) rfl (fun ls hl => ?_)
          refine lv_goto (tgt := 14) hx hb dX1_byLaw_130 (by decide) ?_
          exact hK14 σ62 x0 y45 x3 x4 y63 _ _ _ hB (lv_sub hl [3, 4, 1, 5, 6, 0] rfl) hf
def lc_X1_byLaw_14 (n : Nat) : Nat → CS → Nat → Int32 → Nat → Int32 → Int32 → Option ((Int32) × CS)
  | 0 => fun _ _ _ _ _ _ => none
  | k + 1 => bc_X1_byLaw_14 n (lc_X1_byLaw_14 n k)
theorem tlc_X1_byLaw_14 {p : Program} {l : Launch} {e : Env} {s : State} {m : MethodId} {args : Array Value} {below : List Frame} {meth : Method} {c : Code} {D : va_G} {A : Nat → Prop} {ad : Nat → Nat} {cy : CY} {z : CZ} {r0 : Int32} {σ0 : CS} (hc : cxB RX1 wsC cX1_byLaw 8 (some .int) p s m args meth c) (hV : cV D cy z A s) (n : Nat) : ∀ (k : Nat) (σ : CS) (x0 : Nat) (x2 : Int32) (x3 : Nat) (x4 : Int32) (x5 : Int32) (H : Heap) (locs : List Loc) (ls : Array Slot), cB D ad cy A s.heap σ H locs → lv_has ls 8 [(0, .ref (ad x0)), (1, .ref (ad 32)), (2, .int x2), (3, .ref (ad x3)), (4, .int x4), (5, .int x5)] → lc_X1_byLaw_14 n k σ x0 x2 x3 x4 x5 = some (r0, σ0) → W p l e rm_X1_byLaw s m args below meth c H locs 0 0 (MQ below (cQ D ad cy A (some (.int r0)) σ0) args s 0 0 A) (F0 m 14 ls []) := by
  intro k
  induction k with
  | zero =>
    intro σ x0 x2 x3 x4 x5 H locs ls hB hl hf
    have hf : (none : Option ((Int32) × CS)) = some (r0, σ0) := hf
    cases hf
  | succ k ih =>
    intro σ x0 x2 x3 x4 x5 H locs ls hB hl hf
    exact tbc_X1_byLaw_14 hc hV n (lc_X1_byLaw_14 n k) ih σ x0 x2 x3 x4 x5 hB hl hf
def fc_X1_byLaw (n : Nat) (σ : CS) (x0 : Nat) : Option ((Int32) × CS) := sq ((-1) : Int32) (fun y1 => ck (pk σ x0 1) (od (σ.2.2.1 x0 3) (fun q3 => ck (pk σ q3 9) (sq ((Int32.ofNat (σ.2.2.2.2.1 q3)) : Int32) (fun y5 => sq (0 : Int32) (fun y6 => lc_X1_byLaw_14 n n σ x0 y1 q3 y5 y6))))))
set_option maxRecDepth 100000 in
set_option maxHeartbeats 4000000 in
theorem tbc_X1_byLaw_0 {p : Program} {l : Launch} {e : Env} {s : State} {m : MethodId} {args : Array Value} {below : List Frame} {meth : Method} {c : Code} {D : va_G} {A : Nat → Prop} {ad : Nat → Nat} {cy : CY} {z : CZ} {r0 : Int32} {σ0 : CS} (hc : cxB RX1 wsC cX1_byLaw 8 (some .int) p s m args meth c) (hV : cV D cy z A s) (n : Nat) (σ : CS) (x0 : Nat) {H : Heap} {locs : List Loc} {ls : Array Slot} (hB : cB D ad cy A s.heap σ H locs) (hl : lv_has ls 8 [(0, .ref (ad x0)), (1, .ref (ad 32))]) (hf : fc_X1_byLaw n σ x0 = some (r0, σ0)) : W p l e rm_X1_byLaw s m args below meth c H locs 0 0 (MQ below (cQ D ad cy A (some (.int r0)) σ0) args s 0 0 A) (F0 m 0 ls []) := by
  obtain ⟨hx, hb, hml, hown, hts, hr, hlocks⟩ := id hc
  unfold fc_X1_byLaw at hf
  refine lv_iconst (v := (-1)) hx hb dX1_byLaw_0 (by decide) ?_
  refine lv_topi (fun y1 ey1 => ?_)
  have hf := sq_e hf y1 ey1
  refine lv_istore_n (lv' := [(2, .int y1), (0, .ref (ad x0)), (1, .ref (ad 32))]) hx hb dX1_byLaw_1 rfl hl (by decide) rfl (fun ls hl => ?_)
  refine lv_aload_n hx hb dX1_byLaw_2 rfl (lv_at hl 1 rfl) ?_
  obtain ⟨k2, hf⟩ := ck_e hf
  obtain ⟨q3, hq3, hf⟩ := od_e hf
  refine rc_get (own := RX1) hx hb hts inC_1 hown hV hB x0 (pk_s k2).2.1 (ceq_L k2) rfl 3 (Nat.le_of_ble_eq_true rfl) qf_X1_21 (v := .ref (ad q3)) (by rw [show (.ref (ad q3) : Value) = va_rf (Option.map ad (σ.2.2.1 x0 3)) by rw [hq3]; rfl]; rfl) dX1_byLaw_3 ?_
  refine lv_astore_n (lv' := [(3, .ref (ad q3)), (2, .int y1), (0, .ref (ad x0)), (1, .ref (ad 32))]) hx hb dX1_byLaw_6 rfl hl (by decide) rfl (fun ls hl => ?_)
  refine lv_aload_n hx hb dX1_byLaw_7 rfl (lv_at hl 0 rfl) ?_
  obtain ⟨k4, hf⟩ := ck_e hf
  refine rc_alen hx hb hV hB q3 (pk_s k4).2.1 (ceq_A k4) rfl dX1_byLaw_8 ?_
  refine lv_topi (fun y5 ey5 => ?_)
  have hf := sq_e hf y5 ey5
  refine lv_istore (lv' := [(4, .int y5), (3, .ref (ad q3)), (2, .int y1), (0, .ref (ad x0)), (1, .ref (ad 32))]) hx hb dX1_byLaw_9 hl (by decide) rfl (fun ls hl => ?_)
  refine lv_iconst (v := 0) hx hb dX1_byLaw_11 (by decide) ?_
  refine lv_topi (fun y6 ey6 => ?_)
  have hf := sq_e hf y6 ey6
  refine lv_istore (lv' := [(5, .int y6), (4, .int y5), (3, .ref (ad q3)), (2, .int y1), (0, .ref (ad x0)), (1, .ref (ad 32))]) hx hb dX1_byLaw_12 hl (by decide) rfl (fun ls hl => ?_)
  exact tlc_X1_byLaw_14 hc hV n n σ x0 y1 q3 y5 y6 _ _ _ hB (lv_sub hl [4, 5, 3, 2, 1, 0] rfl) hf
theorem cc_X1_byLaw (l : Launch) (D : va_G) (ad : Nat → Nat) (cy : CY) (z : CZ) (n : Nat) (σ : CS) (x0 : Nat) {r0 : Int32} {σ0 : CS} (hf : fc_X1_byLaw n σ x0 = some (r0, σ0)) : cM l yX1_byLaw wn_X1_byLaw rm_X1_byLaw D ad cy z [.ref (ad x0), .ref (ad 32)] σ (some (.int r0)) σ0 :=
  rc_met (ret := (some .int)) (by decide) rfl (Nat.le_of_ble_eq_true rfl) (fun p e s m below meth c A ls hc hV hB hl => tbc_X1_byLaw_0 hc hV n σ x0 hB hl hf)
/-! X7_isFloor -/
abbrev rm_X7_isFloor : Room := { frames := 0, cells := 0, slots := 0, locals := 0 }
abbrev wn_X7_isFloor : List Cond := .code yX7_isFloor cX7_isFloor 1 (some .boolean) :: wsC
def fc_X7_isFloor (n : Nat) (σ : CS) (x0 : Int32) : Option ((Int32) × CS) := if (x0 < 0) then (some (0, σ)) else (if (4 ≤ x0) then (some (0, σ)) else (some (1, σ)))
set_option maxRecDepth 100000 in
set_option maxHeartbeats 4000000 in
theorem tbc_X7_isFloor_0 {p : Program} {l : Launch} {e : Env} {s : State} {m : MethodId} {args : Array Value} {below : List Frame} {meth : Method} {c : Code} {D : va_G} {A : Nat → Prop} {ad : Nat → Nat} {cy : CY} {z : CZ} {r0 : Int32} {σ0 : CS} (hc : cxB RX7 wsC cX7_isFloor 1 (some .boolean) p s m args meth c) (hV : cV D cy z A s) (n : Nat) (σ : CS) (x0 : Int32) {H : Heap} {locs : List Loc} {ls : Array Slot} (hB : cB D ad cy A s.heap σ H locs) (hl : lv_has ls 1 [(0, .int x0)]) (hf : fc_X7_isFloor n σ x0 = some (r0, σ0)) : W p l e rm_X7_isFloor s m args below meth c H locs 0 0 (MQ below (cQ D ad cy A (some (.int r0)) σ0) args s 0 0 A) (F0 m 0 ls []) := by
  obtain ⟨hx, hb, hml, hown, hts, hr, hlocks⟩ := id hc
  unfold fc_X7_isFloor at hf
  refine lv_iload_n hx hb dX7_isFloor_0 rfl (lv_at hl 0 rfl) ?_
  refine lv_if_lt (tgt := 13) hx hb dX7_isFloor_1 (by decide) (fun c1 => ?_) (fun c1 => ?_)
  · have hf := it_t hf c1
    refine lv_iconst (v := 0) hx hb dX7_isFloor_13 (by decide) ?_
    obtain ⟨rfl, rfl⟩ := so_e hf
    exact rc_zret hx hb hr hlocks rfl hB dX7_isFloor_14
  · have hf := it_f hf c1
    refine lv_iload_n hx hb dX7_isFloor_4 rfl (lv_at hl 0 rfl) ?_
    refine lv_iconst (v := 4) hx hb dX7_isFloor_5 (by decide) ?_
    refine lv_icmp_ge (tgt := 13) hx hb dX7_isFloor_6 (by decide) (fun c2 => ?_) (fun c2 => ?_)
    · have hf := it_t hf c2
      refine lv_iconst (v := 0) hx hb dX7_isFloor_13 (by decide) ?_
      obtain ⟨rfl, rfl⟩ := so_e hf
      exact rc_zret hx hb hr hlocks rfl hB dX7_isFloor_14
    · have hf := it_f hf c2
      refine lv_iconst (v := 1) hx hb dX7_isFloor_9 (by decide) ?_
      refine lv_goto (tgt := 14) hx hb dX7_isFloor_10 (by decide) ?_
      obtain ⟨rfl, rfl⟩ := so_e hf
      exact rc_zret hx hb hr hlocks rfl hB dX7_isFloor_14
theorem cc_X7_isFloor (l : Launch) (D : va_G) (ad : Nat → Nat) (cy : CY) (z : CZ) (n : Nat) (σ : CS) (x0 : Int32) {r0 : Int32} {σ0 : CS} (hf : fc_X7_isFloor n σ x0 = some (r0, σ0)) : cM l yX7_isFloor wn_X7_isFloor rm_X7_isFloor D ad cy z [.int x0] σ (some (.int r0)) σ0 :=
  rc_met (ret := (some .boolean)) (by decide) rfl (Nat.le_of_ble_eq_true rfl) (fun p e s m below meth c A ls hc hV hB hl => tbc_X7_isFloor_0 hc hV n σ x0 hB hl hf)
/-! X2_layOn -/
theorem kwc_X2_73 {R : Room} {s : State} {args : Array Value} (hts : ∀ w ∈ wsC, w.before args s = true) (hN : va_Nw (.methodLinkNest RX2 73 yX7_isFloor RX7) s) (hR : rm_X7_isFloor.frames + 1 ≤ R.frames ∧ 8 + (1 + 11) + rm_X7_isFloor.locals ≤ R.locals) : va_CN R s args RX2 73 yX7_isFloor RX7 cX7_isFloor 1 (some .boolean) wn_X7_isFloor rm_X7_isFloor 0 0 1 ∧ (Cond.static yX7_isFloor).before args s = true ∧ True := ⟨va_cnB 1 hts (gC_c qc_86) rfl rfl rfl hN (hts _ qc_85) (by decide +kernel) hR, hts _ qc_84, trivial⟩
abbrev rm_X2_layOn : Room := { frames := 1, cells := 0, slots := 0, locals := 20 }
abbrev wn_X2_layOn : List Cond := .code yX2_layOn cX2_layOn 2 none :: wsC
def fc_X2_layOn (n : Nat) (σ : CS) (x1 : Int32) : Option ((Int32) × CS) := bd (fc_X7_isFloor n σ x1) (fun r1 σ2 => if (r1 = 0) then (some (0, σ2)) else (ck (ib x1 4) (sq ((σ2.1 8 (Int32.toNatClampNeg x1)) : Int32) (fun y5 => sq (cp σ2 32 (Int32.toNatClampNeg 6) y5) (fun σ6 => ck (ib x1 4) (sq ((σ6.1 9 (Int32.toNatClampNeg x1)) : Int32) (fun y8 => sq (cp σ6 32 (Int32.toNatClampNeg 7) y8) (fun σ9 => some (0, σ9)))))))))
set_option maxRecDepth 100000 in
set_option maxHeartbeats 4000000 in
theorem tbc_X2_layOn_0 {p : Program} {l : Launch} {e : Env} {s : State} {m : MethodId} {args : Array Value} {below : List Frame} {meth : Method} {c : Code} {D : va_G} {A : Nat → Prop} {ad : Nat → Nat} {cy : CY} {z : CZ} {r0 : Int32} {σ0 : CS} (hc : cxB RX2 wsC cX2_layOn 2 none p s m args meth c) (hV : cV D cy z A s) (n : Nat) (σ : CS) (x1 : Int32) {H : Heap} {locs : List Loc} {ls : Array Slot} (hB : cB D ad cy A s.heap σ H locs) (hl : lv_has ls 2 [(0, .ref (ad 31)), (1, .int x1)]) (hf : fc_X2_layOn n σ x1 = some (r0, σ0)) : W p l e rm_X2_layOn s m args below meth c H locs 0 0 (MQ below (cQ D ad cy A none σ0) args s 0 0 A) (F0 m 0 ls []) := by
  obtain ⟨hx, hb, hml, hown, hts, hr, hlocks⟩ := id hc
  unfold fc_X2_layOn at hf
  refine lv_iload_n hx hb dX2_layOn_0 rfl (lv_at hl 1 rfl) ?_
  obtain ⟨r1, σ2, hkr1, hf⟩ := bd_e hf
  refine rc_callN (own := RX2) (av := [.int x1]) (rest := []) (rv := (some (.int r1))) hx hb hml hown hts hl.1 hV hB (cc_X7_isFloor l D ad cy z n σ x1 hkr1) (kwc_X2_73  hts hV.2.2.1 ⟨Nat.le_of_ble_eq_true rfl, Nat.le_of_ble_eq_true rfl⟩) rfl rfl (lv_room (Nat.le_of_ble_eq_true rfl)) dX2_layOn_1 (Nat.le_refl _) (Nat.le_refl _) (fun H locs hB => ?_)
  refine W.eq (g2 := F0 m 4 ls [.int r1]) rfl ?_
  refine lv_if_eq (tgt := 39) hx hb dX2_layOn_4 (by decide) (fun c3 => ?_) (fun c3 => ?_)
  · have hf := it_t hf c3
    obtain ⟨rfl, rfl⟩ := so_e hf
    exact rc_vret hx hb hr hlocks hB dX2_layOn_39
  · have hf := it_f hf c3
    refine lv_aload_n hx hb dX2_layOn_7 rfl (lv_at hl 0 rfl) ?_
    refine rc_get (own := RX2) hx hb hts inC_2 hown hV hB 31 (c34 rfl hB) (ceq_31 _ _ _) rfl 1 (Nat.le_of_ble_eq_true rfl) qf_X2_9 rfl dX2_layOn_8 ?_
    refine lv_bipush (v := 6) hx hb dX2_layOn_11 (by decide) ?_
    refine lv_aload_n hx hb dX2_layOn_13 rfl (lv_at hl 0 rfl) ?_
    refine rc_get (own := RX2) hx hb hts inC_2 hown hV hB 31 (c34 rfl hB) (ceq_31 _ _ _) rfl 0 (Nat.le_of_ble_eq_true rfl) qf_X2_18 rfl dX2_layOn_14 ?_
    refine rc_get (own := RX2) hx hb hts inC_0 hown hV hB 5 (c34 rfl hB) (ceq_5 _ _ _) rfl 2 (Nat.le_of_ble_eq_true rfl) qf_X2_77 rfl dX2_layOn_17 ?_
    refine lv_iload_n hx hb dX2_layOn_20 rfl (lv_at hl 1 rfl) ?_
    obtain ⟨k4, hf⟩ := ck_e hf
    refine rc_ald hx hb hV hB 8 (c34 rfl hB) (ceq_8 _ _ _) k4 dX2_layOn_21 ?_
    refine lv_topi (fun y5 ey5 => ?_)
    have hf := sq_e hf y5 ey5
    refine rc_ast hx hb hV hB 32 (c34 rfl hB) (ceq_32 _ _ _) (fun _ => rfl) (by decide) dX2_layOn_22 (fun σ6 eσ6 H locs hB => ?_)
    have hf := sq_e hf σ6 eσ6
    refine lv_aload_n hx hb dX2_layOn_23 rfl (lv_at hl 0 rfl) ?_
    refine rc_get (own := RX2) hx hb hts inC_2 hown hV hB 31 (c34 rfl hB) (ceq_31 _ _ _) rfl 1 (Nat.le_of_ble_eq_true rfl) qf_X2_9 rfl dX2_layOn_24 ?_
    refine lv_bipush (v := 7) hx hb dX2_layOn_27 (by decide) ?_
    refine lv_aload_n hx hb dX2_layOn_29 rfl (lv_at hl 0 rfl) ?_
    refine rc_get (own := RX2) hx hb hts inC_2 hown hV hB 31 (c34 rfl hB) (ceq_31 _ _ _) rfl 0 (Nat.le_of_ble_eq_true rfl) qf_X2_18 rfl dX2_layOn_30 ?_
    refine rc_get (own := RX2) hx hb hts inC_0 hown hV hB 5 (c34 rfl hB) (ceq_5 _ _ _) rfl 3 (Nat.le_of_ble_eq_true rfl) qf_X2_80 rfl dX2_layOn_33 ?_
    refine lv_iload_n hx hb dX2_layOn_36 rfl (lv_at hl 1 rfl) ?_
    obtain ⟨k7, hf⟩ := ck_e hf
    refine rc_ald hx hb hV hB 9 (c34 rfl hB) (ceq_9 _ _ _) k7 dX2_layOn_37 ?_
    refine lv_topi (fun y8 ey8 => ?_)
    have hf := sq_e hf y8 ey8
    refine rc_ast hx hb hV hB 32 (c34 rfl hB) (ceq_32 _ _ _) (fun _ => rfl) (by decide) dX2_layOn_38 (fun σ9 eσ9 H locs hB => ?_)
    have hf := sq_e hf σ9 eσ9
    obtain ⟨rfl, rfl⟩ := so_e hf
    exact rc_vret hx hb hr hlocks hB dX2_layOn_39
theorem cc_X2_layOn (l : Launch) (D : va_G) (ad : Nat → Nat) (cy : CY) (z : CZ) (n : Nat) (σ : CS) (x1 : Int32) {r0 : Int32} {σ0 : CS} (hf : fc_X2_layOn n σ x1 = some (r0, σ0)) : cM l yX2_layOn wn_X2_layOn rm_X2_layOn D ad cy z [.ref (ad 31), .int x1] σ none σ0 :=
  rc_met (ret := none) (by decide) rfl (Nat.le_of_ble_eq_true rfl) (fun p e s m below meth c A ls hc hV hB hl => tbc_X2_layOn_0 hc hV n σ x1 hB hl hf)
/-! X7_toneOf -/
abbrev rm_X7_toneOf : Room := { frames := 0, cells := 0, slots := 0, locals := 0 }
abbrev wn_X7_toneOf : List Cond := .code yX7_toneOf cX7_toneOf 5 (some .int) :: wsC
def fc_X7_toneOf (n : Nat) (σ : CS) (x0 : Int32) (x1 : Int32) (x2 : Int32) : Option ((Int32) × CS) := sq ((x0 + 10) : Int32) (fun y1 => sq ((10 + (x1 / 10)) : Int32) (fun y2 => if (y1 ≤ 0) then (some (0, σ)) else (if (0 < y2) then (ck (decide (¬ (y1 = 0))) (ck (decide (¬ (y2 = 0))) (some ((((9000 / y1) * (100 + x2)) / y2), σ)))) else (some (0, σ)))))
set_option maxRecDepth 100000 in
set_option maxHeartbeats 4000000 in
theorem tbc_X7_toneOf_0 {p : Program} {l : Launch} {e : Env} {s : State} {m : MethodId} {args : Array Value} {below : List Frame} {meth : Method} {c : Code} {D : va_G} {A : Nat → Prop} {ad : Nat → Nat} {cy : CY} {z : CZ} {r0 : Int32} {σ0 : CS} (hc : cxB RX7 wsC cX7_toneOf 5 (some .int) p s m args meth c) (hV : cV D cy z A s) (n : Nat) (σ : CS) (x0 : Int32) (x1 : Int32) (x2 : Int32) {H : Heap} {locs : List Loc} {ls : Array Slot} (hB : cB D ad cy A s.heap σ H locs) (hl : lv_has ls 5 [(0, .int x0), (1, .int x1), (2, .int x2)]) (hf : fc_X7_toneOf n σ x0 x1 x2 = some (r0, σ0)) : W p l e rm_X7_toneOf s m args below meth c H locs 0 0 (MQ below (cQ D ad cy A (some (.int r0)) σ0) args s 0 0 A) (F0 m 0 ls []) := by
  obtain ⟨hx, hb, hml, hown, hts, hr, hlocks⟩ := id hc
  unfold fc_X7_toneOf at hf
  refine lv_iload_n hx hb dX7_toneOf_0 rfl (lv_at hl 0 rfl) ?_
  refine lv_bipush (v := 10) hx hb dX7_toneOf_1 (by decide) ?_
  refine lv_iadd hx hb dX7_toneOf_3 ?_
  refine lv_topi (fun y1 ey1 => ?_)
  have hf := sq_e hf y1 ey1
  refine lv_istore_n (lv' := [(3, .int y1), (0, .int x0), (1, .int x1), (2, .int x2)]) hx hb dX7_toneOf_4 rfl hl (by decide) rfl (fun ls hl => ?_)
  refine lv_bipush (v := 10) hx hb dX7_toneOf_5 (by decide) ?_
  refine lv_iload_n hx hb dX7_toneOf_7 rfl (lv_at hl 2 rfl) ?_
  refine lv_bipush (v := 10) hx hb dX7_toneOf_8 (by decide) ?_
  refine lv_idiv hx hb dX7_toneOf_10 (by decide) ?_
  refine lv_iadd hx hb dX7_toneOf_11 ?_
  refine lv_topi (fun y2 ey2 => ?_)
  have hf := sq_e hf y2 ey2
  refine lv_istore (lv' := [(4, .int y2), (3, .int y1), (0, .int x0), (1, .int x1), (2, .int x2)]) hx hb dX7_toneOf_12 hl (by decide) rfl (fun ls hl => ?_)
  refine lv_iload_n hx hb dX7_toneOf_14 rfl (lv_at hl 1 rfl) ?_
  refine lv_if_le (tgt := 23) hx hb dX7_toneOf_15 (by decide) (fun c3 => ?_) (fun c3 => ?_)
  · have hf := it_t hf c3
    refine lv_iconst (v := 0) hx hb dX7_toneOf_23 (by decide) ?_
    refine lv_goto (tgt := 40) hx hb dX7_toneOf_24 (by decide) ?_
    obtain ⟨rfl, rfl⟩ := so_e hf
    exact rc_iret hx hb hr hlocks hB dX7_toneOf_40
  · have hf := it_f hf c3
    refine lv_iload hx hb dX7_toneOf_18 (lv_at hl 0 rfl) ?_
    refine lv_if_gt (tgt := 27) hx hb dX7_toneOf_20 (by decide) (fun c4 => ?_) (fun c4 => ?_)
    · have hf := it_t hf c4
      refine lv_sipush (v := 9000) hx hb dX7_toneOf_27 (by decide) ?_
      refine lv_iload_n hx hb dX7_toneOf_30 rfl (lv_at hl 1 rfl) ?_
      obtain ⟨k5, hf⟩ := ck_e hf
      refine lv_idiv hx hb dX7_toneOf_31 (of_decide_eq_true k5) ?_
      refine lv_bipush (v := 100) hx hb dX7_toneOf_32 (by decide) ?_
      refine lv_iload_n hx hb dX7_toneOf_34 rfl (lv_at hl 4 rfl) ?_
      refine lv_iadd hx hb dX7_toneOf_35 ?_
      refine lv_imul hx hb dX7_toneOf_36 ?_
      refine lv_iload hx hb dX7_toneOf_37 (lv_at hl 0 rfl) ?_
      obtain ⟨k6, hf⟩ := ck_e hf
      refine lv_idiv hx hb dX7_toneOf_39 (of_decide_eq_true k6) ?_
      obtain ⟨rfl, rfl⟩ := so_e hf
      exact rc_iret hx hb hr hlocks hB dX7_toneOf_40
    · have hf := it_f hf c4
      refine lv_iconst (v := 0) hx hb dX7_toneOf_23 (by decide) ?_
      refine lv_goto (tgt := 40) hx hb dX7_toneOf_24 (by decide) ?_
      obtain ⟨rfl, rfl⟩ := so_e hf
      exact rc_iret hx hb hr hlocks hB dX7_toneOf_40
theorem cc_X7_toneOf (l : Launch) (D : va_G) (ad : Nat → Nat) (cy : CY) (z : CZ) (n : Nat) (σ : CS) (x0 : Int32) (x1 : Int32) (x2 : Int32) {r0 : Int32} {σ0 : CS} (hf : fc_X7_toneOf n σ x0 x1 x2 = some (r0, σ0)) : cM l yX7_toneOf wn_X7_toneOf rm_X7_toneOf D ad cy z [.int x0, .int x1, .int x2] σ (some (.int r0)) σ0 :=
  rc_met (ret := (some .int)) (by decide) rfl (Nat.le_of_ble_eq_true rfl) (fun p e s m below meth c A ls hc hV hB hl => tbc_X7_toneOf_0 hc hV n σ x0 x1 x2 hB hl hf)
