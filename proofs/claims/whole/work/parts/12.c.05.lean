/-! X6_readPart -/
theorem kwc_X6_65 {R : Room} {s : State} {args : Array Value} (hts : ∀ w ∈ wsC, w.before args s = true) (hR : rm_X6_expect.frames + 1 ≤ R.frames ∧ 8 + (2 + 11) + rm_X6_expect.locals ≤ R.locals) : CallW R s args RX6 RX6 65 yX6_expect cX6_expect 2 none wn_X6_expect rm_X6_expect 0 0 1 := cwV 1 hts (gC_v qc_203 qc_204 qc_205 qc_194 qc_190) rfl rfl rfl (by decide +kernel) hR
theorem kwc_X6_68 {R : Room} {s : State} {args : Array Value} (hts : ∀ w ∈ wsC, w.before args s = true) (hR : rm_X6_readNumber.frames + 1 ≤ R.frames ∧ 8 + (6 + 11) + rm_X6_readNumber.locals ≤ R.locals) : CallW R s args RX6 RX6 68 yX6_readNumber cX6_readNumber 6 (some .int) wn_X6_readNumber rm_X6_readNumber 0 0 2 := cwV 2 hts (gC_v qc_206 qc_207 qc_208 qc_194 qc_199) rfl rfl rfl (by decide +kernel) hR
abbrev rm_X6_readPart : Room := { frames := 3, cells := 0, slots := 0, locals := 66 }
abbrev wn_X6_readPart : List Cond := .code yX6_readPart cX6_readPart 4 (some .int) :: wsC
def fc_X6_readPart (n : Nat) (σ : CS) (x1 : Int32) (x2 : Int32) (x3 : Int32) : Option ((Int32) × CS) := bd (fc_X6_expect n σ x1) (fun _ σ2 => bd (fc_X6_readNumber n σ2 x2 x3) (fun r3 σ4 => some (r3, σ4)))
set_option maxRecDepth 100000 in
set_option maxHeartbeats 4000000 in
theorem tbc_X6_readPart_0 {p : Program} {l : Launch} {e : Env} {s : State} {m : MethodId} {args : Array Value} {below : List Frame} {meth : Method} {c : Code} {D : va_G} {A : Nat → Prop} {ad : Nat → Nat} {cy : CY} {z : CZ} {r0 : Int32} {σ0 : CS} (hc : cxB RX6 wsC cX6_readPart 4 (some .int) p s m args meth c) (hV : cV D cy z A s) (n : Nat) (σ : CS) (x1 : Int32) (x2 : Int32) (x3 : Int32) {H : Heap} {locs : List Loc} {ls : Array Slot} (hB : cB D ad cy A s.heap σ H locs) (hl : lv_has ls 4 [(0, .ref (ad 1)), (1, .int x1), (2, .int x2), (3, .int x3)]) (hf : fc_X6_readPart n σ x1 x2 x3 = some (r0, σ0)) : W p l e rm_X6_readPart s m args below meth c H locs 0 0 (MQ below (cQ D ad cy A (some (.int r0)) σ0) args s 0 0 A) (F0 m 0 ls []) := by
  obtain ⟨hx, hb, hml, hown, hts, hr, hlocks⟩ := id hc
  unfold fc_X6_readPart at hf
  refine lv_aload_n hx hb dX6_readPart_0 rfl (lv_at hl 0 rfl) ?_
  refine lv_iload_n hx hb dX6_readPart_1 rfl (lv_at hl 1 rfl) ?_
  obtain ⟨r1, σ2, hkr1, hf⟩ := bd_e hf
  refine rc_callV (own := RX6) (av := [.int x1]) (rest := []) (rv := none) hx hb hml hown hts hl.1 hV hB 1 (c34 rfl hB) (ceq_1 _ _ _) rfl (cc_X6_expect l D ad cy z n σ x1 hkr1) (kwc_X6_65  hts ⟨Nat.le_of_ble_eq_true rfl, Nat.le_of_ble_eq_true rfl⟩) rfl rfl (lv_room (Nat.le_of_ble_eq_true rfl)) dX6_readPart_2 (Nat.le_refl _) (Nat.le_refl _) (fun H locs hB => ?_)
  refine W.eq (g2 := F0 m 5 ls []) rfl ?_
  refine lv_aload_n hx hb dX6_readPart_5 rfl (lv_at hl 0 rfl) ?_
  refine lv_iload_n hx hb dX6_readPart_6 rfl (lv_at hl 2 rfl) ?_
  refine lv_iload_n hx hb dX6_readPart_7 rfl (lv_at hl 3 rfl) ?_
  obtain ⟨r3, σ4, hkr3, hf⟩ := bd_e hf
  refine rc_callV (own := RX6) (av := [.int x2, .int x3]) (rest := []) (rv := (some (.int r3))) hx hb hml hown hts hl.1 hV hB 1 (c34 rfl hB) (ceq_1 _ _ _) rfl (cc_X6_readNumber l D ad cy z n σ2 x2 x3 hkr3) (kwc_X6_68  hts ⟨Nat.le_of_ble_eq_true rfl, Nat.le_of_ble_eq_true rfl⟩) rfl rfl (lv_room (Nat.le_of_ble_eq_true rfl)) dX6_readPart_8 (Nat.le_refl _) (Nat.le_refl _) (fun H locs hB => ?_)
  refine W.eq (g2 := F0 m 11 ls [.int r3]) rfl ?_
  obtain ⟨rfl, rfl⟩ := so_e hf
  exact rc_iret hx hb hr hlocks hB dX6_readPart_11
theorem cc_X6_readPart (l : Launch) (D : va_G) (ad : Nat → Nat) (cy : CY) (z : CZ) (n : Nat) (σ : CS) (x1 : Int32) (x2 : Int32) (x3 : Int32) {r0 : Int32} {σ0 : CS} (hf : fc_X6_readPart n σ x1 x2 x3 = some (r0, σ0)) : cM l yX6_readPart wn_X6_readPart rm_X6_readPart D ad cy z [.ref (ad 1), .int x1, .int x2, .int x3] σ (some (.int r0)) σ0 :=
  rc_met (ret := (some .int)) (by decide) rfl (Nat.le_of_ble_eq_true rfl) (fun p e s m below meth c A ls hc hV hB hl => tbc_X6_readPart_0 hc hV n σ x1 x2 x3 hB hl hf)
/-! X6_readBracket -/
abbrev wn_X6_readSum : List Cond := .code yX6_readSum cX6_readSum 4 none :: wsC
theorem kwc_X6_49 {R : Room} {s : State} {args : Array Value} {kd : Nat} (hts : ∀ w ∈ wsC, w.before args s = true) (hR : (rm_rs kd).frames + 1 ≤ R.frames ∧ 8 + (4 + 11) + (rm_rs kd).locals ≤ R.locals) : CallW R s args RX6 RX6 49 yX6_readSum cX6_readSum 4 none wn_X6_readSum (rm_rs kd) 0 0 1 := cwV 1 hts (gC_v qc_323 qc_324 qc_325 qc_194 qc_330) rfl rfl rfl (by decide +kernel) hR
abbrev rm_X6_readBracket (kd : Nat) : Room := { frames := 13 + 4 * kd, cells := 0, slots := 0, locals := 650 + 200 * kd }
abbrev wn_X6_readBracket : List Cond := .code yX6_readBracket cX6_readBracket 2 none :: wsC
def fc_X6_readBracket_g (RS : Nat → CS → Int32 → Option (Int32 × CS)) (n : Nat) (σ : CS) (x1 : Int32) : Option ((Int32) × CS) := if (x1 < 4) then (sq (cp σ 1 4 ((σ.1 1 4) + 1)) (fun σ2 => bd (RS n σ2 (x1 + 1)) (fun _ σ4 => bd (fc_X6_expect n σ4 41) (fun _ σ6 => some (0, σ6))))) else (bd (fc_X6_failAt n σ (σ.1 1 4)) (fun _ σ8 => some (0, σ8)))
set_option maxRecDepth 100000 in
set_option maxHeartbeats 4000000 in
theorem tbc_X6_readBracket_0 {p : Program} {l : Launch} {e : Env} {s : State} {m : MethodId} {args : Array Value} {below : List Frame} {meth : Method} {c : Code} {D : va_G} {A : Nat → Prop} {ad : Nat → Nat} {cy : CY} {z : CZ} {r0 : Int32} {σ0 : CS} (kd : Nat) (RS : Nat → CS → Int32 → Option (Int32 × CS)) (hRS : ∀ (l : Launch) (D : va_G) (ad : Nat → Nat) (cy : CY) (z : CZ) (n : Nat) (σ : CS) (x : Int32) (r0 : Int32) (σ0 : CS), RS n σ x = some (r0, σ0) → cM l yX6_readSum wn_X6_readSum (rm_rs kd) D ad cy z [.ref (ad 1), .int x] σ none σ0) (hc : cxB RX6 wsC cX6_readBracket 2 none p s m args meth c) (hV : cV D cy z A s) (n : Nat) (σ : CS) (x1 : Int32) {H : Heap} {locs : List Loc} {ls : Array Slot} (hB : cB D ad cy A s.heap σ H locs) (hl : lv_has ls 2 [(0, .ref (ad 1)), (1, .int x1)]) (hf : fc_X6_readBracket_g RS n σ x1 = some (r0, σ0)) : W p l e (rm_X6_readBracket kd) s m args below meth c H locs 0 0 (MQ below (cQ D ad cy A none σ0) args s 0 0 A) (F0 m 0 ls []) := by
  obtain ⟨hx, hb, hml, hown, hts, hr, hlocks⟩ := id hc
  unfold fc_X6_readBracket_g at hf
  refine lv_iload_n hx hb dX6_readBracket_0 rfl (lv_at hl 1 rfl) ?_
  refine lv_iconst (v := 4) hx hb dX6_readBracket_1 (by decide) ?_
  refine lv_icmp_lt (tgt := 14) hx hb dX6_readBracket_2 (by decide) (fun c1 => ?_) (fun c1 => ?_)
  · have hf := it_t hf c1
    refine lv_aload_n hx hb dX6_readBracket_14 rfl (lv_at hl 0 rfl) ?_
    refine lv_dup hx hb dX6_readBracket_15 rfl ?_
    refine rc_get (own := RX6) hx hb hts inC_6 hown hV hB 1 (c34 rfl hB) (ceq_1 _ _ _) rfl 4 (Nat.le_of_ble_eq_true rfl) qf_X6_59 rfl dX6_readBracket_16 ?_
    refine lv_iconst (v := 1) hx hb dX6_readBracket_19 (by decide) ?_
    refine lv_iadd hx hb dX6_readBracket_20 ?_
    refine rc_puti (own := RX6) (ty := .int) hx hb hts inC_6 hown hV hB 1 (c34 rfl hB) (ceq_1 _ _ _) rfl 4 (Nat.le_of_ble_eq_true rfl) qf_X6_59 tyX6 tyX6_ok nmX6 (cst_1_4 _ _ _ _) rfl pdc_6_4 rfl rfl (Nat.le_of_ble_eq_true rfl) dX6_readBracket_21 (fun σ2 eσ2 H locs hB => ?_)
    have hf := sq_e hf σ2 eσ2
    refine lv_aload_n hx hb dX6_readBracket_24 rfl (lv_at hl 0 rfl) ?_
    refine lv_iload_n hx hb dX6_readBracket_25 rfl (lv_at hl 1 rfl) ?_
    refine lv_iconst (v := 1) hx hb dX6_readBracket_26 (by decide) ?_
    refine lv_iadd hx hb dX6_readBracket_27 ?_
    obtain ⟨r3, σ4, hkr3, hf⟩ := bd_e hf
    refine rc_callV (own := RX6) (av := [.int (x1 + 1)]) (rest := []) (rv := none) hx hb hml hown hts hl.1 hV hB 1 (c34 rfl hB) (ceq_1 _ _ _) rfl (hRS l D ad cy z n σ2 (x1 + 1) _ _ hkr3) (kwc_X6_49 (kd := kd)  hts ⟨by dsimp only; omega, by dsimp only; omega⟩) rfl rfl (lv_room (Nat.le_of_ble_eq_true rfl)) dX6_readBracket_28 (Nat.le_refl _) (Nat.le_refl _) (fun H locs hB => ?_)
    refine W.eq (g2 := F0 m 31 ls []) rfl ?_
    refine lv_aload_n hx hb dX6_readBracket_31 rfl (lv_at hl 0 rfl) ?_
    refine lv_bipush (v := 41) hx hb dX6_readBracket_32 (by decide) ?_
    obtain ⟨r5, σ6, hkr5, hf⟩ := bd_e hf
    refine rc_callV (own := RX6) (av := [.int 41]) (rest := []) (rv := none) hx hb hml hown hts hl.1 hV hB 1 (c34 rfl hB) (ceq_1 _ _ _) rfl (cc_X6_expect l D ad cy z n σ4 41 hkr5) (kwc_X6_65  hts ⟨by dsimp only; omega, by dsimp only; omega⟩) rfl rfl (lv_room (Nat.le_of_ble_eq_true rfl)) dX6_readBracket_34 (Nat.le_refl _) (Nat.le_refl _) (fun H locs hB => ?_)
    refine W.eq (g2 := F0 m 37 ls []) rfl ?_
    obtain ⟨rfl, rfl⟩ := so_e hf
    exact rc_vret hx hb hr hlocks hB dX6_readBracket_37
  · have hf := it_f hf c1
    refine lv_aload_n hx hb dX6_readBracket_5 rfl (lv_at hl 0 rfl) ?_
    refine lv_aload_n hx hb dX6_readBracket_6 rfl (lv_at hl 0 rfl) ?_
    refine rc_get (own := RX6) hx hb hts inC_6 hown hV hB 1 (c34 rfl hB) (ceq_1 _ _ _) rfl 4 (Nat.le_of_ble_eq_true rfl) qf_X6_59 rfl dX6_readBracket_7 ?_
    obtain ⟨r7, σ8, hkr7, hf⟩ := bd_e hf
    refine rc_callV (own := RX6) (av := [.int (σ.1 1 4)]) (rest := []) (rv := none) hx hb hml hown hts hl.1 hV hB 1 (c34 rfl hB) (ceq_1 _ _ _) rfl (cc_X6_failAt l D ad cy z n σ (σ.1 1 4) hkr7) (kwc_X6_62  hts ⟨by dsimp only; omega, by dsimp only; omega⟩) rfl rfl (lv_room (Nat.le_of_ble_eq_true rfl)) dX6_readBracket_10 (Nat.le_refl _) (Nat.le_refl _) (fun H locs hB => ?_)
    refine W.eq (g2 := F0 m 13 ls []) rfl ?_
    obtain ⟨rfl, rfl⟩ := so_e hf
    exact rc_vret hx hb hr hlocks hB dX6_readBracket_13
theorem cc_X6_readBracket_g (kd : Nat) (RS : Nat → CS → Int32 → Option (Int32 × CS)) (hRS : ∀ (l : Launch) (D : va_G) (ad : Nat → Nat) (cy : CY) (z : CZ) (n : Nat) (σ : CS) (x : Int32) (r0 : Int32) (σ0 : CS), RS n σ x = some (r0, σ0) → cM l yX6_readSum wn_X6_readSum (rm_rs kd) D ad cy z [.ref (ad 1), .int x] σ none σ0) (l : Launch) (D : va_G) (ad : Nat → Nat) (cy : CY) (z : CZ) (n : Nat) (σ : CS) (x1 : Int32) {r0 : Int32} {σ0 : CS} (hf : fc_X6_readBracket_g RS n σ x1 = some (r0, σ0)) : cM l yX6_readBracket wn_X6_readBracket (rm_X6_readBracket kd) D ad cy z [.ref (ad 1), .int x1] σ none σ0 :=
  rc_met (ret := none) (by decide) rfl (Nat.le_of_ble_eq_true rfl) (fun p e s m below meth c A ls hc hV hB hl => tbc_X6_readBracket_0 kd RS hRS hc hV n σ x1 hB hl hf)
/-! X6_write -/
abbrev rm_X6_write : Room := { frames := 0, cells := 0, slots := 0, locals := 0 }
abbrev wn_X6_write : List Cond := .code yX6_write cX6_write 2 none :: wsC
def fc_X6_write (n : Nat) (σ : CS) (x1 : Int32) : Option ((Int32) × CS) := if ((σ.1 1 5) < 0) then (some (0, σ)) else (if ((Int32.ofNat 20) ≤ (σ.1 1 5)) then (some (0, σ)) else (ck (ib (σ.1 1 5) 20) (sq (cp σ 3 (Int32.toNatClampNeg (σ.1 1 5)) x1) (fun σ4 => sq (cp σ4 1 5 ((σ4.1 1 5) + 1)) (fun σ5 => some (0, σ5))))))
set_option maxRecDepth 100000 in
set_option maxHeartbeats 4000000 in
theorem tbc_X6_write_0 {p : Program} {l : Launch} {e : Env} {s : State} {m : MethodId} {args : Array Value} {below : List Frame} {meth : Method} {c : Code} {D : va_G} {A : Nat → Prop} {ad : Nat → Nat} {cy : CY} {z : CZ} {r0 : Int32} {σ0 : CS} (hc : cxB RX6 wsC cX6_write 2 none p s m args meth c) (hV : cV D cy z A s) (n : Nat) (σ : CS) (x1 : Int32) {H : Heap} {locs : List Loc} {ls : Array Slot} (hB : cB D ad cy A s.heap σ H locs) (hl : lv_has ls 2 [(0, .ref (ad 1)), (1, .int x1)]) (hf : fc_X6_write n σ x1 = some (r0, σ0)) : W p l e rm_X6_write s m args below meth c H locs 0 0 (MQ below (cQ D ad cy A none σ0) args s 0 0 A) (F0 m 0 ls []) := by
  obtain ⟨hx, hb, hml, hown, hts, hr, hlocks⟩ := id hc
  unfold fc_X6_write at hf
  refine lv_aload_n hx hb dX6_write_0 rfl (lv_at hl 0 rfl) ?_
  refine rc_get (own := RX6) hx hb hts inC_6 hown hV hB 1 (c34 rfl hB) (ceq_1 _ _ _) rfl 5 (Nat.le_of_ble_eq_true rfl) qf_X6_46 rfl dX6_write_1 ?_
  refine lv_if_lt (tgt := 39) hx hb dX6_write_4 (by decide) (fun c1 => ?_) (fun c1 => ?_)
  · have hf := it_t hf c1
    obtain ⟨rfl, rfl⟩ := so_e hf
    exact rc_vret hx hb hr hlocks hB dX6_write_39
  · have hf := it_f hf c1
    refine lv_aload_n hx hb dX6_write_7 rfl (lv_at hl 0 rfl) ?_
    refine rc_get (own := RX6) hx hb hts inC_6 hown hV hB 1 (c34 rfl hB) (ceq_1 _ _ _) rfl 5 (Nat.le_of_ble_eq_true rfl) qf_X6_46 rfl dX6_write_8 ?_
    refine lv_aload_n hx hb dX6_write_11 rfl (lv_at hl 0 rfl) ?_
    refine rc_get (own := RX6) hx hb hts inC_6 hown hV hB 1 (c34 rfl hB) (ceq_1 _ _ _) rfl 1 (Nat.le_of_ble_eq_true rfl) qf_X6_15 rfl dX6_write_12 ?_
    refine rc_alen hx hb hV hB 3 (c34 rfl hB) (ceq_3 _ _ _) rfl dX6_write_15 ?_
    refine lv_icmp_ge (tgt := 39) hx hb dX6_write_16 (by decide) (fun c2 => ?_) (fun c2 => ?_)
    · have hf := it_t hf c2
      obtain ⟨rfl, rfl⟩ := so_e hf
      exact rc_vret hx hb hr hlocks hB dX6_write_39
    · have hf := it_f hf c2
      refine lv_aload_n hx hb dX6_write_19 rfl (lv_at hl 0 rfl) ?_
      refine rc_get (own := RX6) hx hb hts inC_6 hown hV hB 1 (c34 rfl hB) (ceq_1 _ _ _) rfl 1 (Nat.le_of_ble_eq_true rfl) qf_X6_15 rfl dX6_write_20 ?_
      refine lv_aload_n hx hb dX6_write_23 rfl (lv_at hl 0 rfl) ?_
      refine rc_get (own := RX6) hx hb hts inC_6 hown hV hB 1 (c34 rfl hB) (ceq_1 _ _ _) rfl 5 (Nat.le_of_ble_eq_true rfl) qf_X6_46 rfl dX6_write_24 ?_
      refine lv_iload_n hx hb dX6_write_27 rfl (lv_at hl 1 rfl) ?_
      obtain ⟨k3, hf⟩ := ck_e hf
      refine rc_ast hx hb hV hB 3 (c34 rfl hB) (ceq_3 _ _ _) (fun _ => rfl) k3 dX6_write_28 (fun σ4 eσ4 H locs hB => ?_)
      have hf := sq_e hf σ4 eσ4
      refine lv_aload_n hx hb dX6_write_29 rfl (lv_at hl 0 rfl) ?_
      refine lv_dup hx hb dX6_write_30 rfl ?_
      refine rc_get (own := RX6) hx hb hts inC_6 hown hV hB 1 (c34 rfl hB) (ceq_1 _ _ _) rfl 5 (Nat.le_of_ble_eq_true rfl) qf_X6_46 rfl dX6_write_31 ?_
      refine lv_iconst (v := 1) hx hb dX6_write_34 (by decide) ?_
      refine lv_iadd hx hb dX6_write_35 ?_
      refine rc_puti (own := RX6) (ty := .int) hx hb hts inC_6 hown hV hB 1 (c34 rfl hB) (ceq_1 _ _ _) rfl 5 (Nat.le_of_ble_eq_true rfl) qf_X6_46 tyX6 tyX6_ok nmX6 (cst_1_5 _ _ _ _) rfl pdc_6_5 rfl rfl (Nat.le_of_ble_eq_true rfl) dX6_write_36 (fun σ5 eσ5 H locs hB => ?_)
      have hf := sq_e hf σ5 eσ5
      obtain ⟨rfl, rfl⟩ := so_e hf
      exact rc_vret hx hb hr hlocks hB dX6_write_39
theorem cc_X6_write (l : Launch) (D : va_G) (ad : Nat → Nat) (cy : CY) (z : CZ) (n : Nat) (σ : CS) (x1 : Int32) {r0 : Int32} {σ0 : CS} (hf : fc_X6_write n σ x1 = some (r0, σ0)) : cM l yX6_write wn_X6_write rm_X6_write D ad cy z [.ref (ad 1), .int x1] σ none σ0 :=
  rc_met (ret := none) (by decide) rfl (Nat.le_of_ble_eq_true rfl) (fun p e s m below meth c A ls hc hV hB hl => tbc_X6_write_0 hc hV n σ x1 hB hl hf)
/-! J0_isLatin1_aae02 -/
abbrev rm_J0_isLatin1_aae02 : Room := { frames := 0, cells := 0, slots := 0, locals := 0 }
abbrev wn_J0_isLatin1_aae02 : List Cond := .code yJ0_isLatin1_aae02 cJ0_isLatin1_aae02 1 (some .boolean) :: wsC
def fc_J0_isLatin1_aae02 (n : Nat) (σ : CS) : Option ((Int32) × CS) := if ((1 : Int32) = 0) then (some (0, σ)) else (if ((0 : Int32) = 0) then (some (1, σ)) else (some (0, σ)))
set_option maxRecDepth 100000 in
set_option maxHeartbeats 4000000 in
theorem tbc_J0_isLatin1_aae02_0 {p : Program} {l : Launch} {e : Env} {s : State} {m : MethodId} {args : Array Value} {below : List Frame} {meth : Method} {c : Code} {D : va_G} {A : Nat → Prop} {ad : Nat → Nat} {cy : CY} {z : CZ} {r0 : Int32} {σ0 : CS} (hc : cxB RJ0 wsC cJ0_isLatin1_aae02 1 (some .boolean) p s m args meth c) (hV : cV D cy z A s) (n : Nat) (σ : CS) {H : Heap} {locs : List Loc} {ls : Array Slot} (hB : cB D ad cy A s.heap σ H locs) (hl : lv_has ls 1 [(0, .ref (z.2.1 0))]) (hf : fc_J0_isLatin1_aae02 n σ = some (r0, σ0)) : W p l e rm_J0_isLatin1_aae02 s m args below meth c H locs 0 0 (MQ below (cQ D ad cy A (some (.int r0)) σ0) args s 0 0 A) (F0 m 0 ls []) := by
  obtain ⟨hx, hb, hml, hown, hts, hr, hlocks⟩ := id hc
  unfold fc_J0_isLatin1_aae02 at hf
  refine va_gets hx hb hV.2.2.2.2.2.2.1 hB.2.2.2 hown (hts _ qc_242) (fun _ h9 => h9) dJ0_isLatin1_aae02_0 ?_
  refine lv_if_eq (tgt := 17) hx hb dJ0_isLatin1_aae02_3 (by decide) (fun c1 => ?_) (fun c1 => ?_)
  · have hf := it_t hf c1
    refine lv_iconst (v := 0) hx hb dJ0_isLatin1_aae02_17 (by decide) ?_
    obtain ⟨rfl, rfl⟩ := so_e hf
    exact rc_zret hx hb hr hlocks rfl hB dJ0_isLatin1_aae02_18
  · have hf := it_f hf c1
    refine lv_aload_n hx hb dJ0_isLatin1_aae02_6 rfl (lv_at hl 0 rfl) ?_
    refine vk_getf hx hb (hV.2.2.2.2.2.2.2.2.1 0 (by decide)).2.1 hB.2.2.2 hown (hts _ qc_243) (fun _ h9 => h9) dJ0_isLatin1_aae02_7 ?_
    refine lv_if_ne (tgt := 17) hx hb dJ0_isLatin1_aae02_10 (by decide) (fun c2 => ?_) (fun c2 => ?_)
    · have hf := it_f hf c2
      refine lv_iconst (v := 0) hx hb dJ0_isLatin1_aae02_17 (by decide) ?_
      obtain ⟨rfl, rfl⟩ := so_e hf
      exact rc_zret hx hb hr hlocks rfl hB dJ0_isLatin1_aae02_18
    · have hf := it_t hf c2
      refine lv_iconst (v := 1) hx hb dJ0_isLatin1_aae02_13 (by decide) ?_
      refine lv_goto (tgt := 18) hx hb dJ0_isLatin1_aae02_14 (by decide) ?_
      obtain ⟨rfl, rfl⟩ := so_e hf
      exact rc_zret hx hb hr hlocks rfl hB dJ0_isLatin1_aae02_18
theorem cc_J0_isLatin1_aae02 (l : Launch) (D : va_G) (ad : Nat → Nat) (cy : CY) (z : CZ) (n : Nat) (σ : CS) {r0 : Int32} {σ0 : CS} (hf : fc_J0_isLatin1_aae02 n σ = some (r0, σ0)) : cM l yJ0_isLatin1_aae02 wn_J0_isLatin1_aae02 rm_J0_isLatin1_aae02 D ad cy z [.ref (z.2.1 0)] σ (some (.int r0)) σ0 :=
  rc_met (ret := (some .boolean)) (by decide) rfl (Nat.le_of_ble_eq_true rfl) (fun p e s m below meth c A ls hc hV hB hl => tbc_J0_isLatin1_aae02_0 hc hV n σ hB hl hf)
/-! J0_coder_7d493 -/
abbrev rm_J0_coder_7d493 : Room := { frames := 0, cells := 0, slots := 0, locals := 0 }
abbrev wn_J0_coder_7d493 : List Cond := .code yJ0_coder_7d493 cJ0_coder_7d493 1 (some .byte) :: wsC
def fc_J0_coder_7d493 (n : Nat) (σ : CS) : Option ((Int32) × CS) := if ((1 : Int32) = 0) then (some (1, σ)) else (some (0, σ))
set_option maxRecDepth 100000 in
set_option maxHeartbeats 4000000 in
theorem tbc_J0_coder_7d493_0 {p : Program} {l : Launch} {e : Env} {s : State} {m : MethodId} {args : Array Value} {below : List Frame} {meth : Method} {c : Code} {D : va_G} {A : Nat → Prop} {ad : Nat → Nat} {cy : CY} {z : CZ} {r0 : Int32} {σ0 : CS} (hc : cxB RJ0 wsC cJ0_coder_7d493 1 (some .byte) p s m args meth c) (hV : cV D cy z A s) (n : Nat) (σ : CS) {H : Heap} {locs : List Loc} {ls : Array Slot} (hB : cB D ad cy A s.heap σ H locs) (hl : lv_has ls 1 [(0, .ref (z.2.1 0))]) (hf : fc_J0_coder_7d493 n σ = some (r0, σ0)) : W p l e rm_J0_coder_7d493 s m args below meth c H locs 0 0 (MQ below (cQ D ad cy A (some (.int r0)) σ0) args s 0 0 A) (F0 m 0 ls []) := by
  obtain ⟨hx, hb, hml, hown, hts, hr, hlocks⟩ := id hc
  unfold fc_J0_coder_7d493 at hf
  refine va_gets hx hb hV.2.2.2.2.2.2.1 hB.2.2.2 hown (hts _ qc_242) (fun _ h9 => h9) dJ0_coder_7d493_0 ?_
  refine lv_if_eq (tgt := 13) hx hb dJ0_coder_7d493_3 (by decide) (fun c1 => ?_) (fun c1 => ?_)
  · have hf := it_t hf c1
    refine lv_iconst (v := 1) hx hb dJ0_coder_7d493_13 (by decide) ?_
    obtain ⟨rfl, rfl⟩ := so_e hf
    exact W.zret (v := 1) (ty := .byte) hx hb hr rfl (fun t ht hW => ⟨⟨rfl, hB.1, by rw [ht]; exact hB.2.1, hB.2.2.1⟩, hB.2.2.2.F ht⟩) hB.2.2.2.2.2 dJ0_coder_7d493_14 hlocks
  · have hf := it_f hf c1
    refine lv_aload_n hx hb dJ0_coder_7d493_6 rfl (lv_at hl 0 rfl) ?_
    refine vk_getf hx hb (hV.2.2.2.2.2.2.2.2.1 0 (by decide)).2.1 hB.2.2.2 hown (hts _ qc_243) (fun _ h9 => h9) dJ0_coder_7d493_7 ?_
    refine lv_goto (tgt := 14) hx hb dJ0_coder_7d493_10 (by decide) ?_
    obtain ⟨rfl, rfl⟩ := so_e hf
    exact W.zret (v := 0) (ty := .byte) hx hb hr rfl (fun t ht hW => ⟨⟨rfl, hB.1, by rw [ht]; exact hB.2.1, hB.2.2.1⟩, hB.2.2.2.F ht⟩) hB.2.2.2.2.2 dJ0_coder_7d493_14 hlocks
theorem cc_J0_coder_7d493 (l : Launch) (D : va_G) (ad : Nat → Nat) (cy : CY) (z : CZ) (n : Nat) (σ : CS) {r0 : Int32} {σ0 : CS} (hf : fc_J0_coder_7d493 n σ = some (r0, σ0)) : cM l yJ0_coder_7d493 wn_J0_coder_7d493 rm_J0_coder_7d493 D ad cy z [.ref (z.2.1 0)] σ (some (.int r0)) σ0 :=
  rc_met (ret := (some .byte)) (by decide) rfl (Nat.le_of_ble_eq_true rfl) (fun p e s m below meth c A ls hc hV hB hl => tbc_J0_coder_7d493_0 hc hV n σ hB hl hf)
/-! J0_length_8abf5 -/
theorem kwc_J0_335 {R : Room} {s : State} {args : Array Value} (hts : ∀ w ∈ wsC, w.before args s = true) (hR : rm_J0_coder_7d493.frames + 1 ≤ R.frames ∧ 8 + (1 + 11) + rm_J0_coder_7d493.locals ≤ R.locals) : CallW R s args RJ0 RJ0 335 yJ0_coder_7d493 cJ0_coder_7d493 1 (some .byte) wn_J0_coder_7d493 rm_J0_coder_7d493 0 0 0 := cwV 0 hts (gC_v qc_248 qc_249 qc_250 qc_231 qc_251) rfl rfl rfl (by decide +kernel) hR
abbrev rm_J0_length_8abf5 : Room := { frames := 1, cells := 0, slots := 0, locals := 20 }
abbrev wn_J0_length_8abf5 : List Cond := .code yJ0_length_8abf5 cJ0_length_8abf5 1 (some .int) :: wsC
def fc_J0_length_8abf5 (n : Nat) (σ : CS) : Option ((Int32) × CS) := bd (fc_J0_coder_7d493 n σ) (fun r1 σ2 => some ((8 >>> (r1 &&& 31)), σ2))
set_option maxRecDepth 100000 in
set_option maxHeartbeats 4000000 in
theorem tbc_J0_length_8abf5_0 {p : Program} {l : Launch} {e : Env} {s : State} {m : MethodId} {args : Array Value} {below : List Frame} {meth : Method} {c : Code} {D : va_G} {A : Nat → Prop} {ad : Nat → Nat} {cy : CY} {z : CZ} {r0 : Int32} {σ0 : CS} (hc : cxB RJ0 wsC cJ0_length_8abf5 1 (some .int) p s m args meth c) (hV : cV D cy z A s) (n : Nat) (σ : CS) {H : Heap} {locs : List Loc} {ls : Array Slot} (hB : cB D ad cy A s.heap σ H locs) (hl : lv_has ls 1 [(0, .ref (z.2.1 0))]) (hf : fc_J0_length_8abf5 n σ = some (r0, σ0)) : W p l e rm_J0_length_8abf5 s m args below meth c H locs 0 0 (MQ below (cQ D ad cy A (some (.int r0)) σ0) args s 0 0 A) (F0 m 0 ls []) := by
  obtain ⟨hx, hb, hml, hown, hts, hr, hlocks⟩ := id hc
  unfold fc_J0_length_8abf5 at hf
  refine lv_aload_n hx hb dJ0_length_8abf5_0 rfl (lv_at hl 0 rfl) ?_
  refine vk_getf hx hb (hV.2.2.2.2.2.2.2.2.1 0 (by decide)).2.2.1 hB.2.2.2 hown (hts _ qc_237) (fun _ h9 => h9) dJ0_length_8abf5_1 ?_
  refine va_tlen (v := 8) hx hb (hV.2.2.2.2.2.2.2.2.1 0 (by decide)).2.2.2 hB.2.2.2 (by decide) dJ0_length_8abf5_4 ?_
  refine lv_aload_n hx hb dJ0_length_8abf5_5 rfl (lv_at hl 0 rfl) ?_
  obtain ⟨r1, σ2, hkr1, hf⟩ := bd_e hf
  refine rc_callK (own := RJ0) (av := []) (rest := [.int 8]) (rv := (some (.int r1))) hx hb hml hown hts hl.1 hV hB (cc_J0_coder_7d493 l D ad cy z n σ hkr1) (kwc_J0_335  hts ⟨Nat.le_of_ble_eq_true rfl, Nat.le_of_ble_eq_true rfl⟩) rfl rfl (lv_room (Nat.le_of_ble_eq_true rfl)) dJ0_length_8abf5_6 (Nat.le_refl _) (Nat.le_refl _) (fun H locs hB => ?_)
  refine W.eq (g2 := F0 m 9 ls [.int r1, .int 8]) rfl ?_
  refine lv_ishr hx hb dJ0_length_8abf5_9 ?_
  obtain ⟨rfl, rfl⟩ := so_e hf
  exact rc_iret hx hb hr hlocks hB dJ0_length_8abf5_10
theorem cc_J0_length_8abf5 (l : Launch) (D : va_G) (ad : Nat → Nat) (cy : CY) (z : CZ) (n : Nat) (σ : CS) {r0 : Int32} {σ0 : CS} (hf : fc_J0_length_8abf5 n σ = some (r0, σ0)) : cM l yJ0_length_8abf5 wn_J0_length_8abf5 rm_J0_length_8abf5 D ad cy z [.ref (z.2.1 0)] σ (some (.int r0)) σ0 :=
  rc_met (ret := (some .int)) (by decide) rfl (Nat.le_of_ble_eq_true rfl) (fun p e s m below meth c A ls hc hV hB hl => tbc_J0_length_8abf5_0 hc hV n σ hB hl hf)
/-! J1_canEncode_9a6ad -/
abbrev rm_J1_canEncode_9a6ad : Room := { frames := 0, cells := 0, slots := 0, locals := 0 }
abbrev wn_J1_canEncode_9a6ad : List Cond := .code yJ1_canEncode_9a6ad cJ1_canEncode_9a6ad 1 (some .boolean) :: wsC
def fc_J1_canEncode_9a6ad (n : Nat) (σ : CS) (x0 : Int32) : Option ((Int32) × CS) := if (x0 < 0) then (some (0, σ)) else (if (255 < x0) then (some (0, σ)) else (some (1, σ)))
set_option maxRecDepth 100000 in
set_option maxHeartbeats 4000000 in
theorem tbc_J1_canEncode_9a6ad_0 {p : Program} {l : Launch} {e : Env} {s : State} {m : MethodId} {args : Array Value} {below : List Frame} {meth : Method} {c : Code} {D : va_G} {A : Nat → Prop} {ad : Nat → Nat} {cy : CY} {z : CZ} {r0 : Int32} {σ0 : CS} (hc : cxB RJ1 wsC cJ1_canEncode_9a6ad 1 (some .boolean) p s m args meth c) (hV : cV D cy z A s) (n : Nat) (σ : CS) (x0 : Int32) {H : Heap} {locs : List Loc} {ls : Array Slot} (hB : cB D ad cy A s.heap σ H locs) (hl : lv_has ls 1 [(0, .int x0)]) (hf : fc_J1_canEncode_9a6ad n σ x0 = some (r0, σ0)) : W p l e rm_J1_canEncode_9a6ad s m args below meth c H locs 0 0 (MQ below (cQ D ad cy A (some (.int r0)) σ0) args s 0 0 A) (F0 m 0 ls []) := by
  obtain ⟨hx, hb, hml, hown, hts, hr, hlocks⟩ := id hc
  unfold fc_J1_canEncode_9a6ad at hf
  refine lv_iload_n hx hb dJ1_canEncode_9a6ad_0 rfl (lv_at hl 0 rfl) ?_
  refine lv_if_lt (tgt := 15) hx hb dJ1_canEncode_9a6ad_1 (by decide) (fun c1 => ?_) (fun c1 => ?_)
  · have hf := it_t hf c1
    refine lv_iconst (v := 0) hx hb dJ1_canEncode_9a6ad_15 (by decide) ?_
    obtain ⟨rfl, rfl⟩ := so_e hf
    exact rc_zret hx hb hr hlocks rfl hB dJ1_canEncode_9a6ad_16
  · have hf := it_f hf c1
    refine lv_iload_n hx hb dJ1_canEncode_9a6ad_4 rfl (lv_at hl 0 rfl) ?_
    refine lv_sipush (v := 255) hx hb dJ1_canEncode_9a6ad_5 (by decide) ?_
    refine lv_icmp_gt (tgt := 15) hx hb dJ1_canEncode_9a6ad_8 (by decide) (fun c2 => ?_) (fun c2 => ?_)
    · have hf := it_t hf c2
      refine lv_iconst (v := 0) hx hb dJ1_canEncode_9a6ad_15 (by decide) ?_
      obtain ⟨rfl, rfl⟩ := so_e hf
      exact rc_zret hx hb hr hlocks rfl hB dJ1_canEncode_9a6ad_16
    · have hf := it_f hf c2
      refine lv_iconst (v := 1) hx hb dJ1_canEncode_9a6ad_11 (by decide) ?_
      refine lv_goto (tgt := 16) hx hb dJ1_canEncode_9a6ad_12 (by decide) ?_
      obtain ⟨rfl, rfl⟩ := so_e hf
      exact rc_zret hx hb hr hlocks rfl hB dJ1_canEncode_9a6ad_16
theorem cc_J1_canEncode_9a6ad (l : Launch) (D : va_G) (ad : Nat → Nat) (cy : CY) (z : CZ) (n : Nat) (σ : CS) (x0 : Int32) {r0 : Int32} {σ0 : CS} (hf : fc_J1_canEncode_9a6ad n σ x0 = some (r0, σ0)) : cM l yJ1_canEncode_9a6ad wn_J1_canEncode_9a6ad rm_J1_canEncode_9a6ad D ad cy z [.int x0] σ (some (.int r0)) σ0 :=
  rc_met (ret := (some .boolean)) (by decide) rfl (Nat.le_of_ble_eq_true rfl) (fun p e s m below meth c A ls hc hV hB hl => tbc_J1_canEncode_9a6ad_0 hc hV n σ x0 hB hl hf)
/-! J1_indexOfChar_4cfef -/
abbrev rm_J1_indexOfChar_4cfef : Room := { frames := 0, cells := 0, slots := 0, locals := 0 }
abbrev wn_J1_indexOfChar_4cfef : List Cond := .code yJ1_indexOfChar_4cfef cJ1_indexOfChar_4cfef 6 (some .int) :: wsC
def bc_J1_indexOfChar_4cfef_7 (n : Nat) (K7 : CS → Int32 → Int32 → Int32 → Option ((Int32) × CS)) (σ : CS) (x3 : Int32) (x4 : Int32) (x5 : Int32) : Option ((Int32) × CS) := if (x3 ≤ x5) then (some ((-1), σ)) else (ck (ib x5 8) (sq (((ztx.getD 0 []).getD (Int32.toNatClampNeg x5) 0) : Int32) (fun y3 => if (y3 = x4) then (some (x5, σ)) else (sq (x5 + 1 : Int32) (fun y5 => K7 σ x3 x4 y5)))))
set_option maxRecDepth 100000 in
set_option maxHeartbeats 4000000 in
theorem tbc_J1_indexOfChar_4cfef_7 {p : Program} {l : Launch} {e : Env} {s : State} {m : MethodId} {args : Array Value} {below : List Frame} {meth : Method} {c : Code} {D : va_G} {A : Nat → Prop} {ad : Nat → Nat} {cy : CY} {z : CZ} {r0 : Int32} {σ0 : CS} (hc : cxB RJ1 wsC cJ1_indexOfChar_4cfef 6 (some .int) p s m args meth c) (hV : cV D cy z A s) (n : Nat) (K7 : CS → Int32 → Int32 → Int32 → Option ((Int32) × CS)) (hK7 : ∀ (σ : CS) (x3 : Int32) (x4 : Int32) (x5 : Int32) (H : Heap) (locs : List Loc) (ls : Array Slot), cB D ad cy A s.heap σ H locs → lv_has ls 6 [(0, .ref (z.2.2 0)), (3, .int x3), (4, .int x4), (5, .int x5)] → K7 σ x3 x4 x5 = some (r0, σ0) → W p l e rm_J1_indexOfChar_4cfef s m args below meth c H locs 0 0 (MQ below (cQ D ad cy A (some (.int r0)) σ0) args s 0 0 A) (F0 m 7 ls [])) (σ : CS) (x3 : Int32) (x4 : Int32) (x5 : Int32) {H : Heap} {locs : List Loc} {ls : Array Slot} (hB : cB D ad cy A s.heap σ H locs) (hl : lv_has ls 6 [(0, .ref (z.2.2 0)), (3, .int x3), (4, .int x4), (5, .int x5)]) (hf : bc_J1_indexOfChar_4cfef_7 n K7 σ x3 x4 x5 = some (r0, σ0)) : W p l e rm_J1_indexOfChar_4cfef s m args below meth c H locs 0 0 (MQ below (cQ D ad cy A (some (.int r0)) σ0) args s 0 0 A) (F0 m 7 ls []) := by
  obtain ⟨hx, hb, hml, hown, hts, hr, hlocks⟩ := id hc
  unfold bc_J1_indexOfChar_4cfef_7 at hf
  refine lv_iload hx hb dJ1_indexOfChar_4cfef_7 (lv_at hl 3 rfl) ?_
  refine lv_iload_n hx hb dJ1_indexOfChar_4cfef_9 rfl (lv_at hl 1 rfl) ?_
  refine lv_icmp_ge (tgt := 31) hx hb dJ1_indexOfChar_4cfef_10 (by decide) (fun c1 => ?_) (fun c1 => ?_)
  · have hf := it_t hf c1
    refine lv_iconst (v := (-1)) hx hb dJ1_indexOfChar_4cfef_31 (by decide) ?_
    obtain ⟨rfl, rfl⟩ := so_e hf
    exact rc_iret hx hb hr hlocks hB dJ1_indexOfChar_4cfef_32
  · have hf := it_f hf c1
    refine lv_aload_n hx hb dJ1_indexOfChar_4cfef_13 rfl (lv_at hl 0 rfl) ?_
    refine lv_iload hx hb dJ1_indexOfChar_4cfef_14 (lv_at hl 3 rfl) ?_
    obtain ⟨k2, hf⟩ := ck_e hf
    refine va_tb (v := .int ((ztx.getD 0 []).getD (Int32.toNatClampNeg x5) 0)) hx hb (hV.2.2.2.2.2.2.2.2.1 0 (by decide)).2.2.2 hB.2.2.2 (ib_in k2) rfl dJ1_indexOfChar_4cfef_16 ?_
    refine lv_topi (fun y3 ey3 => ?_)
    have hf := sq_e hf y3 ey3
    refine lv_iload hx hb dJ1_indexOfChar_4cfef_17 (lv_at hl 2 rfl) ?_
    refine lv_icmp_ne (tgt := 25) hx hb dJ1_indexOfChar_4cfef_19 (by decide) (fun c4 => ?_) (fun c4 => ?_)
    · have hf := it_f hf c4
      obtain ⟨y5, ey5⟩ : ∃ z : Int32, z = x5 + 1 := ⟨_, rfl⟩
      have hf := sq_e hf y5 ey5
      refine lv_iinc (v := y5) (lv' := [(5, .int y5), (0, .ref (z.2.2 0)), (3, .int x3), (4, .int x4)]) hx hb dJ1_indexOfChar_4cfef_25 hl (k := 3) rfl (by rw [ey5]; rfl) (by decide) rfl (fun ls hl => ?_)
      refine lv_goto (tgt := 7) hx hb dJ1_indexOfChar_4cfef_28 (by decide) ?_
      exact hK7 σ x3 x4 y5 _ _ _ hB (lv_sub hl [1, 2, 3, 0] rfl) hf
    · have hf := it_t hf c4
      refine lv_iload hx hb dJ1_indexOfChar_4cfef_22 (lv_at hl 3 rfl) ?_
      obtain ⟨rfl, rfl⟩ := so_e hf
      exact rc_iret hx hb hr hlocks hB dJ1_indexOfChar_4cfef_24
def lc_J1_indexOfChar_4cfef_7 (n : Nat) : Nat → CS → Int32 → Int32 → Int32 → Option ((Int32) × CS)
  | 0 => fun _ _ _ _ => none
  | k + 1 => bc_J1_indexOfChar_4cfef_7 n (lc_J1_indexOfChar_4cfef_7 n k)
theorem tlc_J1_indexOfChar_4cfef_7 {p : Program} {l : Launch} {e : Env} {s : State} {m : MethodId} {args : Array Value} {below : List Frame} {meth : Method} {c : Code} {D : va_G} {A : Nat → Prop} {ad : Nat → Nat} {cy : CY} {z : CZ} {r0 : Int32} {σ0 : CS} (hc : cxB RJ1 wsC cJ1_indexOfChar_4cfef 6 (some .int) p s m args meth c) (hV : cV D cy z A s) (n : Nat) : ∀ (k : Nat) (σ : CS) (x3 : Int32) (x4 : Int32) (x5 : Int32) (H : Heap) (locs : List Loc) (ls : Array Slot), cB D ad cy A s.heap σ H locs → lv_has ls 6 [(0, .ref (z.2.2 0)), (3, .int x3), (4, .int x4), (5, .int x5)] → lc_J1_indexOfChar_4cfef_7 n k σ x3 x4 x5 = some (r0, σ0) → W p l e rm_J1_indexOfChar_4cfef s m args below meth c H locs 0 0 (MQ below (cQ D ad cy A (some (.int r0)) σ0) args s 0 0 A) (F0 m 7 ls []) := by
  intro k
  induction k with
  | zero =>
    intro σ x3 x4 x5 H locs ls hB hl hf
    have hf : (none : Option ((Int32) × CS)) = some (r0, σ0) := hf
    cases hf
  | succ k ih =>
    intro σ x3 x4 x5 H locs ls hB hl hf
    exact tbc_J1_indexOfChar_4cfef_7 hc hV n (lc_J1_indexOfChar_4cfef_7 n k) ih σ x3 x4 x5 hB hl hf
def fc_J1_indexOfChar_4cfef (n : Nat) (σ : CS) (x1 : Int32) (x2 : Int32) (x3 : Int32) : Option ((Int32) × CS) := sq (((Int32.toInt8 x1).toInt32) : Int32) (fun y1 => lc_J1_indexOfChar_4cfef_7 n n σ x3 y1 x2)
set_option maxRecDepth 100000 in
set_option maxHeartbeats 4000000 in
theorem tbc_J1_indexOfChar_4cfef_0 {p : Program} {l : Launch} {e : Env} {s : State} {m : MethodId} {args : Array Value} {below : List Frame} {meth : Method} {c : Code} {D : va_G} {A : Nat → Prop} {ad : Nat → Nat} {cy : CY} {z : CZ} {r0 : Int32} {σ0 : CS} (hc : cxB RJ1 wsC cJ1_indexOfChar_4cfef 6 (some .int) p s m args meth c) (hV : cV D cy z A s) (n : Nat) (σ : CS) (x1 : Int32) (x2 : Int32) (x3 : Int32) {H : Heap} {locs : List Loc} {ls : Array Slot} (hB : cB D ad cy A s.heap σ H locs) (hl : lv_has ls 6 [(0, .ref (z.2.2 0)), (1, .int x1), (2, .int x2), (3, .int x3)]) (hf : fc_J1_indexOfChar_4cfef n σ x1 x2 x3 = some (r0, σ0)) : W p l e rm_J1_indexOfChar_4cfef s m args below meth c H locs 0 0 (MQ below (cQ D ad cy A (some (.int r0)) σ0) args s 0 0 A) (F0 m 0 ls []) := by
  obtain ⟨hx, hb, hml, hown, hts, hr, hlocks⟩ := id hc
  unfold fc_J1_indexOfChar_4cfef at hf
  refine lv_iload_n hx hb dJ1_indexOfChar_4cfef_0 rfl (lv_at hl 1 rfl) ?_
  refine lv_i2b hx hb dJ1_indexOfChar_4cfef_1 rfl ?_
  refine lv_topi (fun y1 ey1 => ?_)
  have hf := sq_e hf y1 ey1
  refine lv_istore (lv' := [(4, .int y1), (0, .ref (z.2.2 0)), (1, .int x1), (2, .int x2), (3, .int x3)]) hx hb dJ1_indexOfChar_4cfef_2 hl (by decide) rfl (fun ls hl => ?_)
  refine lv_iload_n hx hb dJ1_indexOfChar_4cfef_4 rfl (lv_at hl 3 rfl) ?_
  refine lv_istore (lv' := [(5, .int x2), (4, .int y1), (0, .ref (z.2.2 0)), (1, .int x1), (2, .int x2), (3, .int x3)]) hx hb dJ1_indexOfChar_4cfef_5 hl (by decide) rfl (fun ls hl => ?_)
  exact tlc_J1_indexOfChar_4cfef_7 hc hV n n σ x3 y1 x2 _ _ _ hB (lv_sub hl [2, 5, 1, 0] rfl) hf
theorem cc_J1_indexOfChar_4cfef (l : Launch) (D : va_G) (ad : Nat → Nat) (cy : CY) (z : CZ) (n : Nat) (σ : CS) (x1 : Int32) (x2 : Int32) (x3 : Int32) {r0 : Int32} {σ0 : CS} (hf : fc_J1_indexOfChar_4cfef n σ x1 x2 x3 = some (r0, σ0)) : cM l yJ1_indexOfChar_4cfef wn_J1_indexOfChar_4cfef rm_J1_indexOfChar_4cfef D ad cy z [.ref (z.2.2 0), .int x1, .int x2, .int x3] σ (some (.int r0)) σ0 :=
  rc_met (ret := (some .int)) (by decide) rfl (Nat.le_of_ble_eq_true rfl) (fun p e s m below meth c A ls hc hV hB hl => tbc_J1_indexOfChar_4cfef_0 hc hV n σ x1 x2 x3 hB hl hf)
/-! J1_indexOf_4cfef -/
theorem kwc_J1_88 {R : Room} {s : State} {args : Array Value} (hts : ∀ w ∈ wsC, w.before args s = true) (hR : rm_J1_canEncode_9a6ad.frames + 1 ≤ R.frames ∧ 8 + (1 + 11) + rm_J1_canEncode_9a6ad.locals ≤ R.locals) : CallB R s args RJ1 88 yJ1_canEncode_9a6ad cJ1_canEncode_9a6ad 1 (some .boolean) wn_J1_canEncode_9a6ad rm_J1_canEncode_9a6ad 0 0 1 ∧ (Cond.static yJ1_canEncode_9a6ad).before args s = true := va_cwS 1 hts (gC_s qc_258 qc_259 qc_254 qc_260) rfl rfl rfl (by decide +kernel) hR
theorem kwc_J1_95 {R : Room} {s : State} {args : Array Value} (hts : ∀ w ∈ wsC, w.before args s = true) (hR : rm_J1_indexOfChar_4cfef.frames + 1 ≤ R.frames ∧ 8 + (6 + 11) + rm_J1_indexOfChar_4cfef.locals ≤ R.locals) : CallB R s args RJ1 95 yJ1_indexOfChar_4cfef cJ1_indexOfChar_4cfef 6 (some .int) wn_J1_indexOfChar_4cfef rm_J1_indexOfChar_4cfef 0 0 4 ∧ (Cond.static yJ1_indexOfChar_4cfef).before args s = true := va_cwS 4 hts (gC_s qc_261 qc_262 qc_254 qc_263) rfl rfl rfl (by decide +kernel) hR
abbrev rm_J1_indexOf_4cfef : Room := { frames := 1, cells := 0, slots := 0, locals := 60 }
abbrev wn_J1_indexOf_4cfef : List Cond := .code yJ1_indexOf_4cfef cJ1_indexOf_4cfef 4 (some .int) :: wsC
def fc_J1_indexOf_4cfef (n : Nat) (σ : CS) (x1 : Int32) (x2 : Int32) (x3 : Int32) : Option ((Int32) × CS) := bd (fc_J1_canEncode_9a6ad n σ x1) (fun r1 σ2 => if (r1 = 0) then (some ((-1), σ2)) else (sq (if x2 < 0 then 0 else x2 : Int32) (fun y4 => sq (if 8 < x3 then 8 else x3 : Int32) (fun y5 => if (y4 < y5) then (bd (fc_J1_indexOfChar_4cfef n σ2 x1 y4 y5) (fun r7 σ8 => some (r7, σ8))) else (some ((-1), σ2))))))
set_option maxRecDepth 100000 in
set_option maxHeartbeats 4000000 in
theorem tbc_J1_indexOf_4cfef_0 {p : Program} {l : Launch} {e : Env} {s : State} {m : MethodId} {args : Array Value} {below : List Frame} {meth : Method} {c : Code} {D : va_G} {A : Nat → Prop} {ad : Nat → Nat} {cy : CY} {z : CZ} {r0 : Int32} {σ0 : CS} (hc : cxB RJ1 wsC cJ1_indexOf_4cfef 4 (some .int) p s m args meth c) (hV : cV D cy z A s) (n : Nat) (σ : CS) (x1 : Int32) (x2 : Int32) (x3 : Int32) {H : Heap} {locs : List Loc} {ls : Array Slot} (hB : cB D ad cy A s.heap σ H locs) (hl : lv_has ls 4 [(0, .ref (z.2.2 0)), (1, .int x1), (2, .int x2), (3, .int x3)]) (hf : fc_J1_indexOf_4cfef n σ x1 x2 x3 = some (r0, σ0)) : W p l e rm_J1_indexOf_4cfef s m args below meth c H locs 0 0 (MQ below (cQ D ad cy A (some (.int r0)) σ0) args s 0 0 A) (F0 m 0 ls []) := by
  obtain ⟨hx, hb, hml, hown, hts, hr, hlocks⟩ := id hc
  unfold fc_J1_indexOf_4cfef at hf
  refine lv_iload_n hx hb dJ1_indexOf_4cfef_0 rfl (lv_at hl 1 rfl) ?_
  obtain ⟨r1, σ2, hkr1, hf⟩ := bd_e hf
  refine rc_callS (own := RJ1) (av := [.int x1]) (rest := []) (rv := (some (.int r1))) hx hb hml hown hts hl.1 hV hB (cc_J1_canEncode_9a6ad l D ad cy z n σ x1 hkr1) (kwc_J1_88  hts ⟨Nat.le_of_ble_eq_true rfl, Nat.le_of_ble_eq_true rfl⟩) rfl rfl (lv_room (Nat.le_of_ble_eq_true rfl)) dJ1_indexOf_4cfef_1 (Nat.le_refl _) (Nat.le_refl _) (fun H locs hB => ?_)
  refine W.eq (g2 := F0 m 4 ls [.int r1]) rfl ?_
  refine lv_if_ne (tgt := 9) hx hb dJ1_indexOf_4cfef_4 (by decide) (fun c3 => ?_) (fun c3 => ?_)
  · have hf := it_f hf c3
    refine lv_iload_n hx hb dJ1_indexOf_4cfef_9 rfl (lv_at hl 2 rfl) ?_
    refine lv_iconst (v := 0) hx hb dJ1_indexOf_4cfef_10 (by decide) ?_
    refine va_mmax hx hb (hml.trans hl.1.symm) hown (hts _ qc_256) (hts _ qc_72) (hts _ qc_69) (hts _ qc_73) (Nat.le_of_ble_eq_true rfl) (Nat.le_of_ble_eq_true rfl) (Nat.le_refl _) (Nat.le_refl _) dJ1_indexOf_4cfef_11 ?_
    refine lv_topi (fun y4 ey4 => ?_)
    have hf := sq_e hf y4 ey4
    refine lv_istore_n (lv' := [(2, .int y4), (0, .ref (z.2.2 0)), (1, .int x1), (3, .int x3)]) hx hb dJ1_indexOf_4cfef_14 rfl hl (by decide) rfl (fun ls hl => ?_)
    refine lv_iload_n hx hb dJ1_indexOf_4cfef_15 rfl (lv_at hl 3 rfl) ?_
    refine lv_aload_n hx hb dJ1_indexOf_4cfef_16 rfl (lv_at hl 1 rfl) ?_
    refine va_tlen (v := 8) hx hb (hV.2.2.2.2.2.2.2.2.1 0 (by decide)).2.2.2 hB.2.2.2 (by decide) dJ1_indexOf_4cfef_17 ?_
    refine va_mmin hx hb (hml.trans hl.1.symm) hown (hts _ qc_257) (hts _ qc_68) (hts _ qc_69) (hts _ qc_70) (Nat.le_of_ble_eq_true rfl) (Nat.le_of_ble_eq_true rfl) (Nat.le_refl _) (Nat.le_refl _) dJ1_indexOf_4cfef_18 ?_
    refine lv_topi (fun y5 ey5 => ?_)
    have hf := sq_e hf y5 ey5
    refine lv_istore_n (lv' := [(3, .int y5), (2, .int y4), (0, .ref (z.2.2 0)), (1, .int x1)]) hx hb dJ1_indexOf_4cfef_21 rfl hl (by decide) rfl (fun ls hl => ?_)
    refine lv_iload_n hx hb dJ1_indexOf_4cfef_22 rfl (lv_at hl 1 rfl) ?_
    refine lv_iload_n hx hb dJ1_indexOf_4cfef_23 rfl (lv_at hl 0 rfl) ?_
    refine lv_icmp_lt (tgt := 29) hx hb dJ1_indexOf_4cfef_24 (by decide) (fun c6 => ?_) (fun c6 => ?_)
    · have hf := it_t hf c6
      refine lv_aload_n hx hb dJ1_indexOf_4cfef_29 rfl (lv_at hl 2 rfl) ?_
      refine lv_iload_n hx hb dJ1_indexOf_4cfef_30 rfl (lv_at hl 3 rfl) ?_
      refine lv_iload_n hx hb dJ1_indexOf_4cfef_31 rfl (lv_at hl 1 rfl) ?_
      refine lv_iload_n hx hb dJ1_indexOf_4cfef_32 rfl (lv_at hl 0 rfl) ?_
      obtain ⟨r7, σ8, hkr7, hf⟩ := bd_e hf
      refine rc_callS (own := RJ1) (av := [.ref (z.2.2 0), .int x1, .int y4, .int y5]) (rest := []) (rv := (some (.int r7))) hx hb hml hown hts hl.1 hV hB (cc_J1_indexOfChar_4cfef l D ad cy z n σ2 x1 y4 y5 hkr7) (kwc_J1_95  hts ⟨Nat.le_of_ble_eq_true rfl, Nat.le_of_ble_eq_true rfl⟩) rfl rfl (lv_room (Nat.le_of_ble_eq_true rfl)) dJ1_indexOf_4cfef_33 (Nat.le_refl _) (Nat.le_refl _) (fun H locs hB => ?_)
      refine W.eq (g2 := F0 m 36 ls [.int r7]) rfl ?_
      obtain ⟨rfl, rfl⟩ := so_e hf
      exact rc_iret hx hb hr hlocks hB dJ1_indexOf_4cfef_36
    · have hf := it_f hf c6
      refine lv_iconst (v := (-1)) hx hb dJ1_indexOf_4cfef_27 (by decide) ?_
      obtain ⟨rfl, rfl⟩ := so_e hf
      exact rc_iret hx hb hr hlocks hB dJ1_indexOf_4cfef_28
  · have hf := it_t hf c3
    refine lv_iconst (v := (-1)) hx hb dJ1_indexOf_4cfef_7 (by decide) ?_
    obtain ⟨rfl, rfl⟩ := so_e hf
    exact rc_iret hx hb hr hlocks hB dJ1_indexOf_4cfef_8
theorem cc_J1_indexOf_4cfef (l : Launch) (D : va_G) (ad : Nat → Nat) (cy : CY) (z : CZ) (n : Nat) (σ : CS) (x1 : Int32) (x2 : Int32) (x3 : Int32) {r0 : Int32} {σ0 : CS} (hf : fc_J1_indexOf_4cfef n σ x1 x2 x3 = some (r0, σ0)) : cM l yJ1_indexOf_4cfef wn_J1_indexOf_4cfef rm_J1_indexOf_4cfef D ad cy z [.ref (z.2.2 0), .int x1, .int x2, .int x3] σ (some (.int r0)) σ0 :=
  rc_met (ret := (some .int)) (by decide) rfl (Nat.le_of_ble_eq_true rfl) (fun p e s m below meth c A ls hc hV hB hl => tbc_J1_indexOf_4cfef_0 hc hV n σ x1 x2 x3 hB hl hf)
/-! J0_indexOf_7cf53 -/
theorem kwc_J0_492 {R : Room} {s : State} {args : Array Value} (hts : ∀ w ∈ wsC, w.before args s = true) (hR : rm_J0_isLatin1_aae02.frames + 1 ≤ R.frames ∧ 8 + (1 + 11) + rm_J0_isLatin1_aae02.locals ≤ R.locals) : CallW R s args RJ0 RJ0 492 yJ0_isLatin1_aae02 cJ0_isLatin1_aae02 1 (some .boolean) wn_J0_isLatin1_aae02 rm_J0_isLatin1_aae02 0 0 0 := cwV 0 hts (gC_v qc_238 qc_239 qc_240 qc_231 qc_241) rfl rfl rfl (by decide +kernel) hR
theorem kwc_J0_505 {R : Room} {s : State} {args : Array Value} (hts : ∀ w ∈ wsC, w.before args s = true) (hR : rm_J0_length_8abf5.frames + 1 ≤ R.frames ∧ 8 + (1 + 11) + rm_J0_length_8abf5.locals ≤ R.locals) : CallW R s args RJ0 RJ0 505 yJ0_length_8abf5 cJ0_length_8abf5 1 (some .int) wn_J0_length_8abf5 rm_J0_length_8abf5 0 0 0 := cwV 0 hts (gC_v qc_244 qc_245 qc_246 qc_231 qc_247) rfl rfl rfl (by decide +kernel) hR
theorem kwc_J0_637 {R : Room} {s : State} {args : Array Value} (hts : ∀ w ∈ wsC, w.before args s = true) (hR : rm_J1_indexOf_4cfef.frames + 1 ≤ R.frames ∧ 8 + (4 + 11) + rm_J1_indexOf_4cfef.locals ≤ R.locals) : CallB R s args RJ0 637 yJ1_indexOf_4cfef cJ1_indexOf_4cfef 4 (some .int) wn_J1_indexOf_4cfef rm_J1_indexOf_4cfef 0 0 4 ∧ (Cond.static yJ1_indexOf_4cfef).before args s = true := va_cwS 4 hts (gC_s qc_252 qc_253 qc_254 qc_255) rfl rfl rfl (by decide +kernel) hR
abbrev rm_J0_indexOf_7cf53 : Room := { frames := 2, cells := 0, slots := 0, locals := 83 }
abbrev wn_J0_indexOf_7cf53 : List Cond := .code yJ0_indexOf_7cf53 cJ0_indexOf_7cf53 3 (some .int) :: wsC
def fc_J0_indexOf_7cf53 (n : Nat) (σ : CS) (x1 : Int32) (x2 : Int32) : Option ((Int32) × CS) := bd (fc_J0_isLatin1_aae02 n σ) (fun r1 σ2 => if (r1 = 0) then (bd (fc_J0_length_8abf5 n σ2) (fun r4 σ5 => none)) else (bd (fc_J0_length_8abf5 n σ2) (fun r6 σ7 => bd (fc_J1_indexOf_4cfef n σ7 x1 x2 r6) (fun r8 σ9 => some (r8, σ9)))))
set_option maxRecDepth 100000 in
set_option maxHeartbeats 4000000 in
theorem tbc_J0_indexOf_7cf53_0 {p : Program} {l : Launch} {e : Env} {s : State} {m : MethodId} {args : Array Value} {below : List Frame} {meth : Method} {c : Code} {D : va_G} {A : Nat → Prop} {ad : Nat → Nat} {cy : CY} {z : CZ} {r0 : Int32} {σ0 : CS} (hc : cxB RJ0 wsC cJ0_indexOf_7cf53 3 (some .int) p s m args meth c) (hV : cV D cy z A s) (n : Nat) (σ : CS) (x1 : Int32) (x2 : Int32) {H : Heap} {locs : List Loc} {ls : Array Slot} (hB : cB D ad cy A s.heap σ H locs) (hl : lv_has ls 3 [(0, .ref (z.2.1 0)), (1, .int x1), (2, .int x2)]) (hf : fc_J0_indexOf_7cf53 n σ x1 x2 = some (r0, σ0)) : W p l e rm_J0_indexOf_7cf53 s m args below meth c H locs 0 0 (MQ below (cQ D ad cy A (some (.int r0)) σ0) args s 0 0 A) (F0 m 0 ls []) := by
  obtain ⟨hx, hb, hml, hown, hts, hr, hlocks⟩ := id hc
  unfold fc_J0_indexOf_7cf53 at hf
  refine lv_aload_n hx hb dJ0_indexOf_7cf53_0 rfl (lv_at hl 0 rfl) ?_
  obtain ⟨r1, σ2, hkr1, hf⟩ := bd_e hf
  refine rc_callK (own := RJ0) (av := []) (rest := []) (rv := (some (.int r1))) hx hb hml hown hts hl.1 hV hB (cc_J0_isLatin1_aae02 l D ad cy z n σ hkr1) (kwc_J0_492  hts ⟨Nat.le_of_ble_eq_true rfl, Nat.le_of_ble_eq_true rfl⟩) rfl rfl (lv_room (Nat.le_of_ble_eq_true rfl)) dJ0_indexOf_7cf53_1 (Nat.le_refl _) (Nat.le_refl _) (fun H locs hB => ?_)
  refine W.eq (g2 := F0 m 4 ls [.int r1]) rfl ?_
  refine lv_if_eq (tgt := 23) hx hb dJ0_indexOf_7cf53_4 (by decide) (fun c3 => ?_) (fun c3 => ?_)
  · have hf := it_t hf c3
    refine lv_aload_n hx hb dJ0_indexOf_7cf53_23 rfl (lv_at hl 0 rfl) ?_
    refine vk_getf hx hb (hV.2.2.2.2.2.2.2.2.1 0 (by decide)).2.2.1 hB.2.2.2 hown (hts _ qc_237) (fun _ h9 => h9) dJ0_indexOf_7cf53_24 ?_
    refine lv_iload_n hx hb dJ0_indexOf_7cf53_27 rfl (lv_at hl 1 rfl) ?_
    refine lv_iload_n hx hb dJ0_indexOf_7cf53_28 rfl (lv_at hl 2 rfl) ?_
    refine lv_aload_n hx hb dJ0_indexOf_7cf53_29 rfl (lv_at hl 0 rfl) ?_
    obtain ⟨r4, σ5, hkr4, hf⟩ := bd_e hf
    refine rc_callK (own := RJ0) (av := []) (rest := [.int x2, .int x1, .ref (z.2.2 0)]) (rv := (some (.int r4))) hx hb hml hown hts hl.1 hV hB (cc_J0_length_8abf5 l D ad cy z n σ2 hkr4) (kwc_J0_505  hts ⟨Nat.le_of_ble_eq_true rfl, Nat.le_of_ble_eq_true rfl⟩) rfl rfl (lv_room (Nat.le_of_ble_eq_true rfl)) dJ0_indexOf_7cf53_30 (Nat.le_refl _) (Nat.le_refl _) (fun H locs hB => ?_)
    refine W.eq (g2 := F0 m 33 ls [.int r4, .int x2, .int x1, .ref (z.2.2 0)]) rfl ?_
    cases hf
  · have hf := it_f hf c3
    refine lv_aload_n hx hb dJ0_indexOf_7cf53_7 rfl (lv_at hl 0 rfl) ?_
    refine vk_getf hx hb (hV.2.2.2.2.2.2.2.2.1 0 (by decide)).2.2.1 hB.2.2.2 hown (hts _ qc_237) (fun _ h9 => h9) dJ0_indexOf_7cf53_8 ?_
    refine lv_iload_n hx hb dJ0_indexOf_7cf53_11 rfl (lv_at hl 1 rfl) ?_
    refine lv_iload_n hx hb dJ0_indexOf_7cf53_12 rfl (lv_at hl 2 rfl) ?_
    refine lv_aload_n hx hb dJ0_indexOf_7cf53_13 rfl (lv_at hl 0 rfl) ?_
    obtain ⟨r6, σ7, hkr6, hf⟩ := bd_e hf
    refine rc_callK (own := RJ0) (av := []) (rest := [.int x2, .int x1, .ref (z.2.2 0)]) (rv := (some (.int r6))) hx hb hml hown hts hl.1 hV hB (cc_J0_length_8abf5 l D ad cy z n σ2 hkr6) (kwc_J0_505  hts ⟨Nat.le_of_ble_eq_true rfl, Nat.le_of_ble_eq_true rfl⟩) rfl rfl (lv_room (Nat.le_of_ble_eq_true rfl)) dJ0_indexOf_7cf53_14 (Nat.le_refl _) (Nat.le_refl _) (fun H locs hB => ?_)
    refine W.eq (g2 := F0 m 17 ls [.int r6, .int x2, .int x1, .ref (z.2.2 0)]) rfl ?_
    obtain ⟨r8, σ9, hkr8, hf⟩ := bd_e hf
    refine rc_callS (own := RJ0) (av := [.ref (z.2.2 0), .int x1, .int x2, .int r6]) (rest := []) (rv := (some (.int r8))) hx hb hml hown hts hl.1 hV hB (cc_J1_indexOf_4cfef l D ad cy z n σ7 x1 x2 r6 hkr8) (kwc_J0_637  hts ⟨Nat.le_of_ble_eq_true rfl, Nat.le_of_ble_eq_true rfl⟩) rfl rfl (lv_room (Nat.le_of_ble_eq_true rfl)) dJ0_indexOf_7cf53_17 (Nat.le_refl _) (Nat.le_refl _) (fun H locs hB => ?_)
    refine W.eq (g2 := F0 m 20 ls [.int r8]) rfl ?_
    refine lv_goto (tgt := 36) hx hb dJ0_indexOf_7cf53_20 (by decide) ?_
    obtain ⟨rfl, rfl⟩ := so_e hf
    exact rc_iret hx hb hr hlocks hB dJ0_indexOf_7cf53_36
theorem cc_J0_indexOf_7cf53 (l : Launch) (D : va_G) (ad : Nat → Nat) (cy : CY) (z : CZ) (n : Nat) (σ : CS) (x1 : Int32) (x2 : Int32) {r0 : Int32} {σ0 : CS} (hf : fc_J0_indexOf_7cf53 n σ x1 x2 = some (r0, σ0)) : cM l yJ0_indexOf_7cf53 wn_J0_indexOf_7cf53 rm_J0_indexOf_7cf53 D ad cy z [.ref (z.2.1 0), .int x1, .int x2] σ (some (.int r0)) σ0 :=
  rc_met (ret := (some .int)) (by decide) rfl (Nat.le_of_ble_eq_true rfl) (fun p e s m below meth c A ls hc hV hB hl => tbc_J0_indexOf_7cf53_0 hc hV n σ x1 x2 hB hl hf)
/-! J0_indexOf_0f7a4 -/
theorem kwc_J0_633 {R : Room} {s : State} {args : Array Value} (hts : ∀ w ∈ wsC, w.before args s = true) (hR : rm_J0_indexOf_7cf53.frames + 1 ≤ R.frames ∧ 8 + (3 + 11) + rm_J0_indexOf_7cf53.locals ≤ R.locals) : CallW R s args RJ0 RJ0 633 yJ0_indexOf_7cf53 cJ0_indexOf_7cf53 3 (some .int) wn_J0_indexOf_7cf53 rm_J0_indexOf_7cf53 0 0 2 := cwV 2 hts (gC_v qc_233 qc_234 qc_235 qc_231 qc_236) rfl rfl rfl (by decide +kernel) hR
abbrev rm_J0_indexOf_0f7a4 : Room := { frames := 3, cells := 0, slots := 0, locals := 105 }
abbrev wn_J0_indexOf_0f7a4 : List Cond := .code yJ0_indexOf_0f7a4 cJ0_indexOf_0f7a4 2 (some .int) :: wsC
def fc_J0_indexOf_0f7a4 (n : Nat) (σ : CS) (x1 : Int32) : Option ((Int32) × CS) := bd (fc_J0_indexOf_7cf53 n σ x1 0) (fun r1 σ2 => some (r1, σ2))
set_option maxRecDepth 100000 in
set_option maxHeartbeats 4000000 in
theorem tbc_J0_indexOf_0f7a4_0 {p : Program} {l : Launch} {e : Env} {s : State} {m : MethodId} {args : Array Value} {below : List Frame} {meth : Method} {c : Code} {D : va_G} {A : Nat → Prop} {ad : Nat → Nat} {cy : CY} {z : CZ} {r0 : Int32} {σ0 : CS} (hc : cxB RJ0 wsC cJ0_indexOf_0f7a4 2 (some .int) p s m args meth c) (hV : cV D cy z A s) (n : Nat) (σ : CS) (x1 : Int32) {H : Heap} {locs : List Loc} {ls : Array Slot} (hB : cB D ad cy A s.heap σ H locs) (hl : lv_has ls 2 [(0, .ref (z.2.1 0)), (1, .int x1)]) (hf : fc_J0_indexOf_0f7a4 n σ x1 = some (r0, σ0)) : W p l e rm_J0_indexOf_0f7a4 s m args below meth c H locs 0 0 (MQ below (cQ D ad cy A (some (.int r0)) σ0) args s 0 0 A) (F0 m 0 ls []) := by
  obtain ⟨hx, hb, hml, hown, hts, hr, hlocks⟩ := id hc
  unfold fc_J0_indexOf_0f7a4 at hf
  refine lv_aload_n hx hb dJ0_indexOf_0f7a4_0 rfl (lv_at hl 0 rfl) ?_
  refine lv_iload_n hx hb dJ0_indexOf_0f7a4_1 rfl (lv_at hl 1 rfl) ?_
  refine lv_iconst (v := 0) hx hb dJ0_indexOf_0f7a4_2 (by decide) ?_
  obtain ⟨r1, σ2, hkr1, hf⟩ := bd_e hf
  refine rc_callK (own := RJ0) (av := [.int x1, .int 0]) (rest := []) (rv := (some (.int r1))) hx hb hml hown hts hl.1 hV hB (cc_J0_indexOf_7cf53 l D ad cy z n σ x1 0 hkr1) (kwc_J0_633  hts ⟨Nat.le_of_ble_eq_true rfl, Nat.le_of_ble_eq_true rfl⟩) rfl rfl (lv_room (Nat.le_of_ble_eq_true rfl)) dJ0_indexOf_0f7a4_3 (Nat.le_refl _) (Nat.le_refl _) (fun H locs hB => ?_)
  refine W.eq (g2 := F0 m 6 ls [.int r1]) rfl ?_
  obtain ⟨rfl, rfl⟩ := so_e hf
  exact rc_iret hx hb hr hlocks hB dJ0_indexOf_0f7a4_6
theorem cc_J0_indexOf_0f7a4 (l : Launch) (D : va_G) (ad : Nat → Nat) (cy : CY) (z : CZ) (n : Nat) (σ : CS) (x1 : Int32) {r0 : Int32} {σ0 : CS} (hf : fc_J0_indexOf_0f7a4 n σ x1 = some (r0, σ0)) : cM l yJ0_indexOf_0f7a4 wn_J0_indexOf_0f7a4 rm_J0_indexOf_0f7a4 D ad cy z [.ref (z.2.1 0), .int x1] σ (some (.int r0)) σ0 :=
  rc_met (ret := (some .int)) (by decide) rfl (Nat.le_of_ble_eq_true rfl) (fun p e s m below meth c A ls hc hV hB hl => tbc_J0_indexOf_0f7a4_0 hc hV n σ x1 hB hl hf)
/-! X6_readField -/
theorem kwc_X6_93 {R : Room} {s : State} {args : Array Value} (hts : ∀ w ∈ wsC, w.before args s = true) (hR : rm_J0_indexOf_0f7a4.frames + 1 ≤ R.frames ∧ 8 + (2 + 11) + rm_J0_indexOf_0f7a4.locals ≤ R.locals) : CallW R s args RX6 RJ0 93 yJ0_indexOf_0f7a4 cJ0_indexOf_0f7a4 2 (some .int) wn_J0_indexOf_0f7a4 rm_J0_indexOf_0f7a4 0 0 1 := cwV 1 hts (gC_v qc_228 qc_229 qc_230 qc_231 qc_232) rfl rfl rfl (by decide +kernel) hR
theorem kwc_X6_79 {R : Room} {s : State} {args : Array Value} (hts : ∀ w ∈ wsC, w.before args s = true) (hR : rm_X6_write.frames + 1 ≤ R.frames ∧ 8 + (2 + 11) + rm_X6_write.locals ≤ R.locals) : CallW R s args RX6 RX6 79 yX6_write cX6_write 2 none wn_X6_write rm_X6_write 0 0 1 := cwV 1 hts (gC_v qc_312 qc_313 qc_314 qc_194 qc_226) rfl rfl rfl (by decide +kernel) hR
abbrev rm_X6_readField : Room := { frames := 4, cells := 0, slots := 0, locals := 126 }
abbrev wn_X6_readField : List Cond := .code yX6_readField cX6_readField 2 none :: wsC
def bc_X6_readField_22 (n : Nat) (σ : CS) (t0 : Int32) : Option ((Int32) × CS) := if (0 ≤ t0) then (bd (fc_X6_write n σ (1000 + t0)) (fun _ σ3 => sq (cp σ3 1 4 ((σ3.1 1 4) + 1)) (fun σ4 => some (0, σ4)))) else (bd (fc_X6_failAt n σ (σ.1 1 4)) (fun _ σ6 => some (0, σ6)))
set_option maxRecDepth 100000 in
set_option maxHeartbeats 4000000 in
theorem tbc_X6_readField_22 {p : Program} {l : Launch} {e : Env} {s : State} {m : MethodId} {args : Array Value} {below : List Frame} {meth : Method} {c : Code} {D : va_G} {A : Nat → Prop} {ad : Nat → Nat} {cy : CY} {z : CZ} {r0 : Int32} {σ0 : CS} (hc : cxB RX6 wsC cX6_readField 2 none p s m args meth c) (hV : cV D cy z A s) (n : Nat) (σ : CS) (t0 : Int32) {H : Heap} {locs : List Loc} {ls : Array Slot} (hB : cB D ad cy A s.heap σ H locs) (hl : lv_has ls 2 [(0, .ref (ad 1))]) (hf : bc_X6_readField_22 n σ t0 = some (r0, σ0)) : W p l e rm_X6_readField s m args below meth c H locs 0 0 (MQ below (cQ D ad cy A none σ0) args s 0 0 A) (F0 m 22 ls [.int t0]) := by
  obtain ⟨hx, hb, hml, hown, hts, hr, hlocks⟩ := id hc
  unfold bc_X6_readField_22 at hf
  refine lv_istore_n (lv' := [(1, .int t0), (0, .ref (ad 1))]) hx hb dX6_readField_22 rfl hl (by decide) rfl (fun ls hl => ?_)
  refine lv_iload_n hx hb dX6_readField_23 rfl (lv_at hl 0 rfl) ?_
  refine lv_if_ge (tgt := 36) hx hb dX6_readField_24 (by decide) (fun c1 => ?_) (fun c1 => ?_)
  · have hf := it_t hf c1
    refine lv_aload_n hx hb dX6_readField_36 rfl (lv_at hl 1 rfl) ?_
    refine lv_sipush (v := 1000) hx hb dX6_readField_37 (by decide) ?_
    refine lv_iload_n hx hb dX6_readField_40 rfl (lv_at hl 0 rfl) ?_
    refine lv_iadd hx hb dX6_readField_41 ?_
    obtain ⟨r2, σ3, hkr2, hf⟩ := bd_e hf
    refine rc_callV (own := RX6) (av := [.int (1000 + t0)]) (rest := []) (rv := none) hx hb hml hown hts hl.1 hV hB 1 (c34 rfl hB) (ceq_1 _ _ _) rfl (cc_X6_write l D ad cy z n σ (1000 + t0) hkr2) (kwc_X6_79  hts ⟨Nat.le_of_ble_eq_true rfl, Nat.le_of_ble_eq_true rfl⟩) rfl rfl (lv_room (Nat.le_of_ble_eq_true rfl)) dX6_readField_42 (Nat.le_refl _) (Nat.le_refl _) (fun H locs hB => ?_)
    refine W.eq (g2 := F0 m 45 ls []) rfl ?_
    refine lv_aload_n hx hb dX6_readField_45 rfl (lv_at hl 1 rfl) ?_
    refine lv_dup hx hb dX6_readField_46 rfl ?_
    refine rc_get (own := RX6) hx hb hts inC_6 hown hV hB 1 (c34 rfl hB) (ceq_1 _ _ _) rfl 4 (Nat.le_of_ble_eq_true rfl) qf_X6_59 rfl dX6_readField_47 ?_
    refine lv_iconst (v := 1) hx hb dX6_readField_50 (by decide) ?_
    refine lv_iadd hx hb dX6_readField_51 ?_
    refine rc_puti (own := RX6) (ty := .int) hx hb hts inC_6 hown hV hB 1 (c34 rfl hB) (ceq_1 _ _ _) rfl 4 (Nat.le_of_ble_eq_true rfl) qf_X6_59 tyX6 tyX6_ok nmX6 (cst_1_4 _ _ _ _) rfl pdc_6_4 rfl rfl (Nat.le_of_ble_eq_true rfl) dX6_readField_52 (fun σ4 eσ4 H locs hB => ?_)
    have hf := sq_e hf σ4 eσ4
    obtain ⟨rfl, rfl⟩ := so_e hf
    exact rc_vret hx hb hr hlocks hB dX6_readField_55
  · have hf := it_f hf c1
    refine lv_aload_n hx hb dX6_readField_27 rfl (lv_at hl 1 rfl) ?_
    refine lv_aload_n hx hb dX6_readField_28 rfl (lv_at hl 1 rfl) ?_
    refine rc_get (own := RX6) hx hb hts inC_6 hown hV hB 1 (c34 rfl hB) (ceq_1 _ _ _) rfl 4 (Nat.le_of_ble_eq_true rfl) qf_X6_59 rfl dX6_readField_29 ?_
    obtain ⟨r5, σ6, hkr5, hf⟩ := bd_e hf
    refine rc_callV (own := RX6) (av := [.int (σ.1 1 4)]) (rest := []) (rv := none) hx hb hml hown hts hl.1 hV hB 1 (c34 rfl hB) (ceq_1 _ _ _) rfl (cc_X6_failAt l D ad cy z n σ (σ.1 1 4) hkr5) (kwc_X6_62  hts ⟨Nat.le_of_ble_eq_true rfl, Nat.le_of_ble_eq_true rfl⟩) rfl rfl (lv_room (Nat.le_of_ble_eq_true rfl)) dX6_readField_32 (Nat.le_refl _) (Nat.le_refl _) (fun H locs hB => ?_)
    refine W.eq (g2 := F0 m 35 ls []) rfl ?_
    obtain ⟨rfl, rfl⟩ := so_e hf
    exact rc_vret hx hb hr hlocks hB dX6_readField_35
def fc_X6_readField (n : Nat) (σ : CS) : Option ((Int32) × CS) := bd (fc_X6_next n σ) (fun r1 σ2 => if (r1 = (-1)) then (bc_X6_readField_22 n σ2 (-1)) else (bd (fc_X6_next n σ2) (fun r4 σ5 => bd (fc_J0_indexOf_0f7a4 n σ5 ((Int32.toUInt32 r4 % 65536).toInt32)) (fun r6 σ7 => bc_X6_readField_22 n σ7 r6))))
set_option maxRecDepth 100000 in
set_option maxHeartbeats 4000000 in
theorem tbc_X6_readField_0 {p : Program} {l : Launch} {e : Env} {s : State} {m : MethodId} {args : Array Value} {below : List Frame} {meth : Method} {c : Code} {D : va_G} {A : Nat → Prop} {ad : Nat → Nat} {cy : CY} {z : CZ} {r0 : Int32} {σ0 : CS} (hc : cxB RX6 wsC cX6_readField 2 none p s m args meth c) (hV : cV D cy z A s) (n : Nat) (σ : CS) {H : Heap} {locs : List Loc} {ls : Array Slot} (hB : cB D ad cy A s.heap σ H locs) (hl : lv_has ls 2 [(0, .ref (ad 1))]) (hf : fc_X6_readField n σ = some (r0, σ0)) : W p l e rm_X6_readField s m args below meth c H locs 0 0 (MQ below (cQ D ad cy A none σ0) args s 0 0 A) (F0 m 0 ls []) := by
  obtain ⟨hx, hb, hml, hown, hts, hr, hlocks⟩ := id hc
  unfold fc_X6_readField at hf
  refine lv_aload_n hx hb dX6_readField_0 rfl (lv_at hl 0 rfl) ?_
  obtain ⟨r1, σ2, hkr1, hf⟩ := bd_e hf
  refine rc_callV (own := RX6) (av := []) (rest := []) (rv := (some (.int r1))) hx hb hml hown hts hl.1 hV hB 1 (c34 rfl hB) (ceq_1 _ _ _) rfl (cc_X6_next l D ad cy z n σ hkr1) (kwc_X6_31  hts ⟨Nat.le_of_ble_eq_true rfl, Nat.le_of_ble_eq_true rfl⟩) rfl rfl (lv_room (Nat.le_of_ble_eq_true rfl)) dX6_readField_1 (Nat.le_refl _) (Nat.le_refl _) (fun H locs hB => ?_)
  refine W.eq (g2 := F0 m 4 ls [.int r1]) rfl ?_
  refine lv_iconst (v := (-1)) hx hb dX6_readField_4 (by decide) ?_
  refine lv_icmp_ne (tgt := 12) hx hb dX6_readField_5 (by decide) (fun c3 => ?_) (fun c3 => ?_)
  · have hf := it_f hf c3
    refine va_ldcS hx hb hown hV.2.2.2.2.2.2.2.1 dX6_readField_12 ?_
    refine lv_aload_n hx hb dX6_readField_14 rfl (lv_at hl 0 rfl) ?_
    obtain ⟨r4, σ5, hkr4, hf⟩ := bd_e hf
    refine rc_callV (own := RX6) (av := []) (rest := [.ref (z.2.1 0)]) (rv := (some (.int r4))) hx hb hml hown hts hl.1 hV hB 1 (c34 rfl hB) (ceq_1 _ _ _) rfl (cc_X6_next l D ad cy z n σ2 hkr4) (kwc_X6_31  hts ⟨Nat.le_of_ble_eq_true rfl, Nat.le_of_ble_eq_true rfl⟩) rfl rfl (lv_room (Nat.le_of_ble_eq_true rfl)) dX6_readField_15 (Nat.le_refl _) (Nat.le_refl _) (fun H locs hB => ?_)
    refine W.eq (g2 := F0 m 18 ls [.int r4, .ref (z.2.1 0)]) rfl ?_
    refine lv_i2c hx hb dX6_readField_18 rfl ?_
    obtain ⟨r6, σ7, hkr6, hf⟩ := bd_e hf
    refine rc_callK (own := RX6) (av := [.int ((Int32.toUInt32 r4 % 65536).toInt32)]) (rest := []) (rv := (some (.int r6))) hx hb hml hown hts hl.1 hV hB (cc_J0_indexOf_0f7a4 l D ad cy z n σ5 ((Int32.toUInt32 r4 % 65536).toInt32) hkr6) (kwc_X6_93  hts ⟨Nat.le_of_ble_eq_true rfl, Nat.le_of_ble_eq_true rfl⟩) rfl rfl (lv_room (Nat.le_of_ble_eq_true rfl)) dX6_readField_19 (Nat.le_refl _) (Nat.le_refl _) (fun H locs hB => ?_)
    refine W.eq (g2 := F0 m 22 ls [.int r6]) rfl ?_
    exact tbc_X6_readField_22 hc hV n σ7 r6 hB (lv_sub hl [0] rfl) hf
  · have hf := it_t hf c3
    refine lv_iconst (v := (-1)) hx hb dX6_readField_8 (by decide) ?_
    refine lv_goto (tgt := 22) hx hb dX6_readField_9 (by decide) ?_
    exact tbc_X6_readField_22 hc hV n σ2 (-1) hB (lv_sub hl [0] rfl) hf
theorem cc_X6_readField (l : Launch) (D : va_G) (ad : Nat → Nat) (cy : CY) (z : CZ) (n : Nat) (σ : CS) {r0 : Int32} {σ0 : CS} (hf : fc_X6_readField n σ = some (r0, σ0)) : cM l yX6_readField wn_X6_readField rm_X6_readField D ad cy z [.ref (ad 1)] σ none σ0 :=
  rc_met (ret := none) (by decide) rfl (Nat.le_of_ble_eq_true rfl) (fun p e s m below meth c A ls hc hV hB hl => tbc_X6_readField_0 hc hV n σ hB hl hf)
/-! X6_readAtom -/
theorem kwc_X6_85 {R : Room} {s : State} {args : Array Value} {kd : Nat} (hts : ∀ w ∈ wsC, w.before args s = true) (hR : (rm_X6_readBracket kd).frames + 1 ≤ R.frames ∧ 8 + (2 + 11) + (rm_X6_readBracket kd).locals ≤ R.locals) : CallW R s args RX6 RX6 85 yX6_readBracket cX6_readBracket 2 none wn_X6_readBracket (rm_X6_readBracket kd) 0 0 1 := cwV 1 hts (gC_v qc_316 qc_317 qc_318 qc_194 qc_322) rfl rfl rfl (by decide +kernel) hR
theorem kwc_X6_88 {R : Room} {s : State} {args : Array Value} (hts : ∀ w ∈ wsC, w.before args s = true) (hR : rm_X6_readField.frames + 1 ≤ R.frames ∧ 8 + (2 + 11) + rm_X6_readField.locals ≤ R.locals) : CallW R s args RX6 RX6 88 yX6_readField cX6_readField 2 none wn_X6_readField rm_X6_readField 0 0 0 := cwV 0 hts (gC_v qc_319 qc_320 qc_321 qc_194 qc_315) rfl rfl rfl (by decide +kernel) hR
abbrev rm_X6_readAtom (kd : Nat) : Room := { frames := 14 + 4 * kd, cells := 0, slots := 0, locals := 700 + 200 * kd }
abbrev wn_X6_readAtom : List Cond := .code yX6_readAtom cX6_readAtom 2 none :: wsC
def fc_X6_readAtom_g (RS : Nat → CS → Int32 → Option (Int32 × CS)) (n : Nat) (σ : CS) (x1 : Int32) : Option ((Int32) × CS) := bd (fc_X6_next n σ) (fun r1 σ2 => if (r1 = 40) then (bd (fc_X6_readBracket_g RS n σ2 x1) (fun _ σ14 => some (0, σ14))) else (bd (fc_X6_isAtDigit n σ2) (fun r4 σ5 => if (r4 = 0) then (bd (fc_X6_readField n σ5) (fun _ σ8 => some (0, σ8))) else (bd (fc_X6_readNumber n σ5 0 999) (fun r9 σ10 => bd (fc_X6_write n σ10 r9) (fun _ σ12 => some (0, σ12)))))))
set_option maxRecDepth 100000 in
set_option maxHeartbeats 4000000 in
theorem tbc_X6_readAtom_0 {p : Program} {l : Launch} {e : Env} {s : State} {m : MethodId} {args : Array Value} {below : List Frame} {meth : Method} {c : Code} {D : va_G} {A : Nat → Prop} {ad : Nat → Nat} {cy : CY} {z : CZ} {r0 : Int32} {σ0 : CS} (kd : Nat) (RS : Nat → CS → Int32 → Option (Int32 × CS)) (hRS : ∀ (l : Launch) (D : va_G) (ad : Nat → Nat) (cy : CY) (z : CZ) (n : Nat) (σ : CS) (x : Int32) (r0 : Int32) (σ0 : CS), RS n σ x = some (r0, σ0) → cM l yX6_readSum wn_X6_readSum (rm_rs kd) D ad cy z [.ref (ad 1), .int x] σ none σ0) (hc : cxB RX6 wsC cX6_readAtom 2 none p s m args meth c) (hV : cV D cy z A s) (n : Nat) (σ : CS) (x1 : Int32) {H : Heap} {locs : List Loc} {ls : Array Slot} (hB : cB D ad cy A s.heap σ H locs) (hl : lv_has ls 2 [(0, .ref (ad 1)), (1, .int x1)]) (hf : fc_X6_readAtom_g RS n σ x1 = some (r0, σ0)) : W p l e (rm_X6_readAtom kd) s m args below meth c H locs 0 0 (MQ below (cQ D ad cy A none σ0) args s 0 0 A) (F0 m 0 ls []) := by
  obtain ⟨hx, hb, hml, hown, hts, hr, hlocks⟩ := id hc
  unfold fc_X6_readAtom_g at hf
  refine lv_aload_n hx hb dX6_readAtom_0 rfl (lv_at hl 0 rfl) ?_
  obtain ⟨r1, σ2, hkr1, hf⟩ := bd_e hf
  refine rc_callV (own := RX6) (av := []) (rest := []) (rv := (some (.int r1))) hx hb hml hown hts hl.1 hV hB 1 (c34 rfl hB) (ceq_1 _ _ _) rfl (cc_X6_next l D ad cy z n σ hkr1) (kwc_X6_31  hts ⟨by dsimp only; omega, by dsimp only; omega⟩) rfl rfl (lv_room (Nat.le_of_ble_eq_true rfl)) dX6_readAtom_1 (Nat.le_refl _) (Nat.le_refl _) (fun H locs hB => ?_)
  refine W.eq (g2 := F0 m 4 ls [.int r1]) rfl ?_
  refine lv_bipush (v := 40) hx hb dX6_readAtom_4 (by decide) ?_
  refine lv_icmp_ne (tgt := 17) hx hb dX6_readAtom_6 (by decide) (fun c3 => ?_) (fun c3 => ?_)
  · have hf := it_f hf c3
    refine lv_aload_n hx hb dX6_readAtom_17 rfl (lv_at hl 0 rfl) ?_
    obtain ⟨r4, σ5, hkr4, hf⟩ := bd_e hf
    refine rc_callV (own := RX6) (av := []) (rest := []) (rv := (some (.int r4))) hx hb hml hown hts hl.1 hV hB 1 (c34 rfl hB) (ceq_1 _ _ _) rfl (cc_X6_isAtDigit l D ad cy z n σ2 hkr4) (kwc_X6_72  hts ⟨by dsimp only; omega, by dsimp only; omega⟩) rfl rfl (lv_room (Nat.le_of_ble_eq_true rfl)) dX6_readAtom_18 (Nat.le_refl _) (Nat.le_refl _) (fun H locs hB => ?_)
    refine W.eq (g2 := F0 m 21 ls [.int r4]) rfl ?_
    refine lv_if_eq (tgt := 39) hx hb dX6_readAtom_21 (by decide) (fun c6 => ?_) (fun c6 => ?_)
    · have hf := it_t hf c6
      refine lv_aload_n hx hb dX6_readAtom_39 rfl (lv_at hl 0 rfl) ?_
      obtain ⟨r7, σ8, hkr7, hf⟩ := bd_e hf
      refine rc_callV (own := RX6) (av := []) (rest := []) (rv := none) hx hb hml hown hts hl.1 hV hB 1 (c34 rfl hB) (ceq_1 _ _ _) rfl (cc_X6_readField l D ad cy z n σ5 hkr7) (kwc_X6_88  hts ⟨by dsimp only; omega, by dsimp only; omega⟩) rfl rfl (lv_room (Nat.le_of_ble_eq_true rfl)) dX6_readAtom_40 (Nat.le_refl _) (Nat.le_refl _) (fun H locs hB => ?_)
      refine W.eq (g2 := F0 m 43 ls []) rfl ?_
      obtain ⟨rfl, rfl⟩ := so_e hf
      exact rc_vret hx hb hr hlocks hB dX6_readAtom_43
    · have hf := it_f hf c6
      refine lv_aload_n hx hb dX6_readAtom_24 rfl (lv_at hl 0 rfl) ?_
      refine lv_aload_n hx hb dX6_readAtom_25 rfl (lv_at hl 0 rfl) ?_
      refine lv_iconst (v := 0) hx hb dX6_readAtom_26 (by decide) ?_
      refine lv_sipush (v := 999) hx hb dX6_readAtom_27 (by decide) ?_
      obtain ⟨r9, σ10, hkr9, hf⟩ := bd_e hf
      refine rc_callV (own := RX6) (av := [.int 0, .int 999]) (rest := [.ref (ad 1)]) (rv := (some (.int r9))) hx hb hml hown hts hl.1 hV hB 1 (c34 rfl hB) (ceq_1 _ _ _) rfl (cc_X6_readNumber l D ad cy z n σ5 0 999 hkr9) (kwc_X6_68  hts ⟨by dsimp only; omega, by dsimp only; omega⟩) rfl rfl (lv_room (Nat.le_of_ble_eq_true rfl)) dX6_readAtom_30 (Nat.le_refl _) (Nat.le_refl _) (fun H locs hB => ?_)
      refine W.eq (g2 := F0 m 33 ls [.int r9, .ref (ad 1)]) rfl ?_
      obtain ⟨r11, σ12, hkr11, hf⟩ := bd_e hf
      refine rc_callV (own := RX6) (av := [.int r9]) (rest := []) (rv := none) hx hb hml hown hts hl.1 hV hB 1 (c34 rfl hB) (ceq_1 _ _ _) rfl (cc_X6_write l D ad cy z n σ10 r9 hkr11) (kwc_X6_79  hts ⟨by dsimp only; omega, by dsimp only; omega⟩) rfl rfl (lv_room (Nat.le_of_ble_eq_true rfl)) dX6_readAtom_33 (Nat.le_refl _) (Nat.le_refl _) (fun H locs hB => ?_)
      refine W.eq (g2 := F0 m 36 ls []) rfl ?_
      refine lv_goto (tgt := 43) hx hb dX6_readAtom_36 (by decide) ?_
      obtain ⟨rfl, rfl⟩ := so_e hf
      exact rc_vret hx hb hr hlocks hB dX6_readAtom_43
  · have hf := it_t hf c3
    refine lv_aload_n hx hb dX6_readAtom_9 rfl (lv_at hl 0 rfl) ?_
    refine lv_iload_n hx hb dX6_readAtom_10 rfl (lv_at hl 1 rfl) ?_
    obtain ⟨r13, σ14, hkr13, hf⟩ := bd_e hf
    refine rc_callV (own := RX6) (av := [.int x1]) (rest := []) (rv := none) hx hb hml hown hts hl.1 hV hB 1 (c34 rfl hB) (ceq_1 _ _ _) rfl (cc_X6_readBracket_g kd RS hRS l D ad cy z n σ2 x1 hkr13) (kwc_X6_85 (kd := kd)  hts ⟨by dsimp only; omega, by dsimp only; omega⟩) rfl rfl (lv_room (Nat.le_of_ble_eq_true rfl)) dX6_readAtom_11 (Nat.le_refl _) (Nat.le_refl _) (fun H locs hB => ?_)
    refine W.eq (g2 := F0 m 14 ls []) rfl ?_
    refine lv_goto (tgt := 43) hx hb dX6_readAtom_14 (by decide) ?_
    obtain ⟨rfl, rfl⟩ := so_e hf
    exact rc_vret hx hb hr hlocks hB dX6_readAtom_43
theorem cc_X6_readAtom_g (kd : Nat) (RS : Nat → CS → Int32 → Option (Int32 × CS)) (hRS : ∀ (l : Launch) (D : va_G) (ad : Nat → Nat) (cy : CY) (z : CZ) (n : Nat) (σ : CS) (x : Int32) (r0 : Int32) (σ0 : CS), RS n σ x = some (r0, σ0) → cM l yX6_readSum wn_X6_readSum (rm_rs kd) D ad cy z [.ref (ad 1), .int x] σ none σ0) (l : Launch) (D : va_G) (ad : Nat → Nat) (cy : CY) (z : CZ) (n : Nat) (σ : CS) (x1 : Int32) {r0 : Int32} {σ0 : CS} (hf : fc_X6_readAtom_g RS n σ x1 = some (r0, σ0)) : cM l yX6_readAtom wn_X6_readAtom (rm_X6_readAtom kd) D ad cy z [.ref (ad 1), .int x1] σ none σ0 :=
  rc_met (ret := none) (by decide) rfl (Nat.le_of_ble_eq_true rfl) (fun p e s m below meth c A ls hc hV hB hl => tbc_X6_readAtom_0 kd RS hRS hc hV n σ x1 hB hl hf)
/-! X6_readProduct -/
theorem kwc_X6_82 {R : Room} {s : State} {args : Array Value} {kd : Nat} (hts : ∀ w ∈ wsC, w.before args s = true) (hR : (rm_X6_readAtom kd).frames + 1 ≤ R.frames ∧ 8 + (2 + 11) + (rm_X6_readAtom kd).locals ≤ R.locals) : CallW R s args RX6 RX6 82 yX6_readAtom cX6_readAtom 2 none wn_X6_readAtom (rm_X6_readAtom kd) 0 0 1 := cwV 1 hts (gC_v qc_327 qc_328 qc_329 qc_194 qc_334) rfl rfl rfl (by decide +kernel) hR
abbrev rm_X6_readProduct (kd : Nat) : Room := { frames := 15 + 4 * kd, cells := 0, slots := 0, locals := 750 + 200 * kd }
abbrev wn_X6_readProduct : List Cond := .code yX6_readProduct cX6_readProduct 4 none :: wsC
def bc_X6_readProduct_31 (RS : Nat → CS → Int32 → Option (Int32 × CS)) (n : Nat) (K7 : CS → Int32 → Int32 → Option ((Int32) × CS)) (σ : CS) (x1 : Int32) (x2 : Int32) : Option ((Int32) × CS) := bd (fc_X6_next n σ) (fun r1 σ2 => sq (cp σ2 1 4 ((σ2.1 1 4) + 1)) (fun σ3 => bd (fc_X6_readAtom_g RS n σ3 x1) (fun _ σ5 => bd (fc_X6_write n σ5 (-r1)) (fun _ σ7 => sq (x2 + 1 : Int32) (fun y8 => K7 σ7 x1 y8)))))
set_option maxRecDepth 100000 in
set_option maxHeartbeats 4000000 in
theorem tbc_X6_readProduct_31 {p : Program} {l : Launch} {e : Env} {s : State} {m : MethodId} {args : Array Value} {below : List Frame} {meth : Method} {c : Code} {D : va_G} {A : Nat → Prop} {ad : Nat → Nat} {cy : CY} {z : CZ} {r0 : Int32} {σ0 : CS} (kd : Nat) (RS : Nat → CS → Int32 → Option (Int32 × CS)) (hRS : ∀ (l : Launch) (D : va_G) (ad : Nat → Nat) (cy : CY) (z : CZ) (n : Nat) (σ : CS) (x : Int32) (r0 : Int32) (σ0 : CS), RS n σ x = some (r0, σ0) → cM l yX6_readSum wn_X6_readSum (rm_rs kd) D ad cy z [.ref (ad 1), .int x] σ none σ0) (hc : cxB RX6 wsC cX6_readProduct 4 none p s m args meth c) (hV : cV D cy z A s) (n : Nat) (K7 : CS → Int32 → Int32 → Option ((Int32) × CS)) (hK7 : ∀ (σ : CS) (x1 : Int32) (x2 : Int32) (H : Heap) (locs : List Loc) (ls : Array Slot), cB D ad cy A s.heap σ H locs → lv_has ls 4 [(0, .ref (ad 1)), (1, .int x1), (2, .int x2)] → K7 σ x1 x2 = some (r0, σ0) → W p l e (rm_X6_readProduct kd) s m args below meth c H locs 0 0 (MQ below (cQ D ad cy A none σ0) args s 0 0 A) (F0 m 7 ls [])) (σ : CS) (x1 : Int32) (x2 : Int32) {H : Heap} {locs : List Loc} {ls : Array Slot} (hB : cB D ad cy A s.heap σ H locs) (hl : lv_has ls 4 [(0, .ref (ad 1)), (1, .int x1), (2, .int x2)]) (hf : bc_X6_readProduct_31 RS n K7 σ x1 x2 = some (r0, σ0)) : W p l e (rm_X6_readProduct kd) s m args below meth c H locs 0 0 (MQ below (cQ D ad cy A none σ0) args s 0 0 A) (F0 m 31 ls []) := by
  obtain ⟨hx, hb, hml, hown, hts, hr, hlocks⟩ := id hc
  unfold bc_X6_readProduct_31 at hf
  refine lv_aload_n hx hb dX6_readProduct_31 rfl (lv_at hl 0 rfl) ?_
  obtain ⟨r1, σ2, hkr1, hf⟩ := bd_e hf
  refine rc_callV (own := RX6) (av := []) (rest := []) (rv := (some (.int r1))) hx hb hml hown hts hl.1 hV hB 1 (c34 rfl hB) (ceq_1 _ _ _) rfl (cc_X6_next l D ad cy z n σ hkr1) (kwc_X6_31  hts ⟨by dsimp only; omega, by dsimp only; omega⟩) rfl rfl (lv_room (Nat.le_of_ble_eq_true rfl)) dX6_readProduct_32 (Nat.le_refl _) (Nat.le_refl _) (fun H locs hB => ?_)
  refine W.eq (g2 := F0 m 35 ls [.int r1]) rfl ?_
  refine lv_istore_n (lv' := [(3, .int r1), (0, .ref (ad 1)), (1, .int x1), (2, .int x2)]) hx hb dX6_readProduct_35 rfl hl (by decide) rfl (fun ls hl => ?_)
  refine lv_aload_n hx hb dX6_readProduct_36 rfl (lv_at hl 1 rfl) ?_
  refine lv_dup hx hb dX6_readProduct_37 rfl ?_
  refine rc_get (own := RX6) hx hb hts inC_6 hown hV hB 1 (c34 rfl hB) (ceq_1 _ _ _) rfl 4 (Nat.le_of_ble_eq_true rfl) qf_X6_59 rfl dX6_readProduct_38 ?_
  refine lv_iconst (v := 1) hx hb dX6_readProduct_41 (by decide) ?_
  refine lv_iadd hx hb dX6_readProduct_42 ?_
  refine rc_puti (own := RX6) (ty := .int) hx hb hts inC_6 hown hV hB 1 (c34 rfl hB) (ceq_1 _ _ _) rfl 4 (Nat.le_of_ble_eq_true rfl) qf_X6_59 tyX6 tyX6_ok nmX6 (cst_1_4 _ _ _ _) rfl pdc_6_4 rfl rfl (Nat.le_of_ble_eq_true rfl) dX6_readProduct_43 (fun σ3 eσ3 H locs hB => ?_)
  have hf := sq_e hf σ3 eσ3
  refine lv_aload_n hx hb dX6_readProduct_46 rfl (lv_at hl 1 rfl) ?_
  refine lv_iload_n hx hb dX6_readProduct_47 rfl (lv_at hl 2 rfl) ?_
  obtain ⟨r4, σ5, hkr4, hf⟩ := bd_e hf
  refine rc_callV (own := RX6) (av := [.int x1]) (rest := []) (rv := none) hx hb hml hown hts hl.1 hV hB 1 (c34 rfl hB) (ceq_1 _ _ _) rfl (cc_X6_readAtom_g kd RS hRS l D ad cy z n σ3 x1 hkr4) (kwc_X6_82 (kd := kd)  hts ⟨by dsimp only; omega, by dsimp only; omega⟩) rfl rfl (lv_room (Nat.le_of_ble_eq_true rfl)) dX6_readProduct_48 (Nat.le_refl _) (Nat.le_refl _) (fun H locs hB => ?_)
  refine W.eq (g2 := F0 m 51 ls []) rfl ?_
  refine lv_aload_n hx hb dX6_readProduct_51 rfl (lv_at hl 1 rfl) ?_
  refine lv_iload_n hx hb dX6_readProduct_52 rfl (lv_at hl 0 rfl) ?_
  refine lv_ineg hx hb dX6_readProduct_53 ?_
  obtain ⟨r6, σ7, hkr6, hf⟩ := bd_e hf
  refine rc_callV (own := RX6) (av := [.int (-r1)]) (rest := []) (rv := none) hx hb hml hown hts hl.1 hV hB 1 (c34 rfl hB) (ceq_1 _ _ _) rfl (cc_X6_write l D ad cy z n σ5 (-r1) hkr6) (kwc_X6_79  hts ⟨by dsimp only; omega, by dsimp only; omega⟩) rfl rfl (lv_room (Nat.le_of_ble_eq_true rfl)) dX6_readProduct_54 (Nat.le_refl _) (Nat.le_refl _) (fun H locs hB => ?_)
  refine W.eq (g2 := F0 m 57 ls []) rfl ?_
  obtain ⟨y8, ey8⟩ : ∃ z : Int32, z = x2 + 1 := ⟨_, rfl⟩
  have hf := sq_e hf y8 ey8
  refine lv_iinc (v := y8) (lv' := [(2, .int y8), (3, .int r1), (0, .ref (ad 1)), (1, .int x1)]) hx hb dX6_readProduct_57 hl (k := 3) rfl (by rw [ey8]; rfl) (by decide) rfl (fun ls hl => ?_)
  refine lv_goto (tgt := 7) hx hb dX6_readProduct_60 (by decide) ?_
  exact hK7 σ7 x1 y8 _ _ _ hB (lv_sub hl [2, 3, 0] rfl) hf
def bc_X6_readProduct_7 (RS : Nat → CS → Int32 → Option (Int32 × CS)) (n : Nat) (K7 : CS → Int32 → Int32 → Option ((Int32) × CS)) (σ : CS) (x1 : Int32) (x2 : Int32) : Option ((Int32) × CS) := if (20 ≤ x2) then (some (0, σ)) else (bd (fc_X6_next n σ) (fun r2 σ3 => if (r2 = 42) then (bc_X6_readProduct_31 RS n K7 σ3 x1 x2) else (bd (fc_X6_next n σ3) (fun r5 σ6 => if (r5 = 47) then (bc_X6_readProduct_31 RS n K7 σ6 x1 x2) else (some (0, σ6))))))
set_option maxRecDepth 100000 in
set_option maxHeartbeats 4000000 in
theorem tbc_X6_readProduct_7 {p : Program} {l : Launch} {e : Env} {s : State} {m : MethodId} {args : Array Value} {below : List Frame} {meth : Method} {c : Code} {D : va_G} {A : Nat → Prop} {ad : Nat → Nat} {cy : CY} {z : CZ} {r0 : Int32} {σ0 : CS} (kd : Nat) (RS : Nat → CS → Int32 → Option (Int32 × CS)) (hRS : ∀ (l : Launch) (D : va_G) (ad : Nat → Nat) (cy : CY) (z : CZ) (n : Nat) (σ : CS) (x : Int32) (r0 : Int32) (σ0 : CS), RS n σ x = some (r0, σ0) → cM l yX6_readSum wn_X6_readSum (rm_rs kd) D ad cy z [.ref (ad 1), .int x] σ none σ0) (hc : cxB RX6 wsC cX6_readProduct 4 none p s m args meth c) (hV : cV D cy z A s) (n : Nat) (K7 : CS → Int32 → Int32 → Option ((Int32) × CS)) (hK7 : ∀ (σ : CS) (x1 : Int32) (x2 : Int32) (H : Heap) (locs : List Loc) (ls : Array Slot), cB D ad cy A s.heap σ H locs → lv_has ls 4 [(0, .ref (ad 1)), (1, .int x1), (2, .int x2)] → K7 σ x1 x2 = some (r0, σ0) → W p l e (rm_X6_readProduct kd) s m args below meth c H locs 0 0 (MQ below (cQ D ad cy A none σ0) args s 0 0 A) (F0 m 7 ls [])) (σ : CS) (x1 : Int32) (x2 : Int32) {H : Heap} {locs : List Loc} {ls : Array Slot} (hB : cB D ad cy A s.heap σ H locs) (hl : lv_has ls 4 [(0, .ref (ad 1)), (1, .int x1), (2, .int x2)]) (hf : bc_X6_readProduct_7 RS n K7 σ x1 x2 = some (r0, σ0)) : W p l e (rm_X6_readProduct kd) s m args below meth c H locs 0 0 (MQ below (cQ D ad cy A none σ0) args s 0 0 A) (F0 m 7 ls []) := by
  obtain ⟨hx, hb, hml, hown, hts, hr, hlocks⟩ := id hc
  unfold bc_X6_readProduct_7 at hf
  refine lv_iload_n hx hb dX6_readProduct_7 rfl (lv_at hl 2 rfl) ?_
  refine lv_bipush (v := 20) hx hb dX6_readProduct_8 (by decide) ?_
  refine lv_icmp_ge (tgt := 63) hx hb dX6_readProduct_10 (by decide) (fun c1 => ?_) (fun c1 => ?_)
  · have hf := it_t hf c1
    obtain ⟨rfl, rfl⟩ := so_e hf
    exact rc_vret hx hb hr hlocks hB dX6_readProduct_63
  · have hf := it_f hf c1
    refine lv_aload_n hx hb dX6_readProduct_13 rfl (lv_at hl 0 rfl) ?_
    obtain ⟨r2, σ3, hkr2, hf⟩ := bd_e hf
    refine rc_callV (own := RX6) (av := []) (rest := []) (rv := (some (.int r2))) hx hb hml hown hts hl.1 hV hB 1 (c34 rfl hB) (ceq_1 _ _ _) rfl (cc_X6_next l D ad cy z n σ hkr2) (kwc_X6_31  hts ⟨by dsimp only; omega, by dsimp only; omega⟩) rfl rfl (lv_room (Nat.le_of_ble_eq_true rfl)) dX6_readProduct_14 (Nat.le_refl _) (Nat.le_refl _) (fun H locs hB => ?_)
    refine W.eq (g2 := F0 m 17 ls [.int r2]) rfl ?_
    refine lv_bipush (v := 42) hx hb dX6_readProduct_17 (by decide) ?_
    refine lv_icmp_eq (tgt := 31) hx hb dX6_readProduct_19 (by decide) (fun c4 => ?_) (fun c4 => ?_)
    · have hf := it_t hf c4
      exact tbc_X6_readProduct_31 kd RS hRS hc hV n K7 hK7 σ3 x1 x2 hB (lv_sub hl [0, 1, 2] rfl) hf
    · have hf := it_f hf c4
      refine lv_aload_n hx hb dX6_readProduct_22 rfl (lv_at hl 0 rfl) ?_
      obtain ⟨r5, σ6, hkr5, hf⟩ := bd_e hf
      refine rc_callV (own := RX6) (av := []) (rest := []) (rv := (some (.int r5))) hx hb hml hown hts hl.1 hV hB 1 (c34 rfl hB) (ceq_1 _ _ _) rfl (cc_X6_next l D ad cy z n σ3 hkr5) (kwc_X6_31  hts ⟨by dsimp only; omega, by dsimp only; omega⟩) rfl rfl (lv_room (Nat.le_of_ble_eq_true rfl)) dX6_readProduct_23 (Nat.le_refl _) (Nat.le_refl _) (fun H locs hB => ?_)
      refine W.eq (g2 := F0 m 26 ls [.int r5]) rfl ?_
      refine lv_bipush (v := 47) hx hb dX6_readProduct_26 (by decide) ?_
      refine lv_icmp_ne (tgt := 63) hx hb dX6_readProduct_28 (by decide) (fun c7 => ?_) (fun c7 => ?_)
      · have hf := it_f hf c7
        obtain ⟨rfl, rfl⟩ := so_e hf
        exact rc_vret hx hb hr hlocks hB dX6_readProduct_63
      · have hf := it_t hf c7
        exact tbc_X6_readProduct_31 kd RS hRS hc hV n K7 hK7 σ6 x1 x2 hB (lv_sub hl [0, 1, 2] rfl) hf
def lc_X6_readProduct_7 (RS : Nat → CS → Int32 → Option (Int32 × CS)) (n : Nat) : Nat → CS → Int32 → Int32 → Option ((Int32) × CS)
  | 0 => fun _ _ _ => none
  | k + 1 => bc_X6_readProduct_7 RS n (lc_X6_readProduct_7 RS n k)
theorem tlc_X6_readProduct_7 {p : Program} {l : Launch} {e : Env} {s : State} {m : MethodId} {args : Array Value} {below : List Frame} {meth : Method} {c : Code} {D : va_G} {A : Nat → Prop} {ad : Nat → Nat} {cy : CY} {z : CZ} {r0 : Int32} {σ0 : CS} (kd : Nat) (RS : Nat → CS → Int32 → Option (Int32 × CS)) (hRS : ∀ (l : Launch) (D : va_G) (ad : Nat → Nat) (cy : CY) (z : CZ) (n : Nat) (σ : CS) (x : Int32) (r0 : Int32) (σ0 : CS), RS n σ x = some (r0, σ0) → cM l yX6_readSum wn_X6_readSum (rm_rs kd) D ad cy z [.ref (ad 1), .int x] σ none σ0) (hc : cxB RX6 wsC cX6_readProduct 4 none p s m args meth c) (hV : cV D cy z A s) (n : Nat) : ∀ (k : Nat) (σ : CS) (x1 : Int32) (x2 : Int32) (H : Heap) (locs : List Loc) (ls : Array Slot), cB D ad cy A s.heap σ H locs → lv_has ls 4 [(0, .ref (ad 1)), (1, .int x1), (2, .int x2)] → lc_X6_readProduct_7 RS n k σ x1 x2 = some (r0, σ0) → W p l e (rm_X6_readProduct kd) s m args below meth c H locs 0 0 (MQ below (cQ D ad cy A none σ0) args s 0 0 A) (F0 m 7 ls []) := by
  intro k
  induction k with
  | zero =>
    intro σ x1 x2 H locs ls hB hl hf
    have hf : (none : Option ((Int32) × CS)) = some (r0, σ0) := hf
    cases hf
  | succ k ih =>
    intro σ x1 x2 H locs ls hB hl hf
    exact tbc_X6_readProduct_7 kd RS hRS hc hV n (lc_X6_readProduct_7 RS n k) ih σ x1 x2 hB hl hf
def fc_X6_readProduct_g (RS : Nat → CS → Int32 → Option (Int32 × CS)) (n : Nat) (σ : CS) (x1 : Int32) : Option ((Int32) × CS) := bd (fc_X6_readAtom_g RS n σ x1) (fun _ σ2 => sq (0 : Int32) (fun y3 => lc_X6_readProduct_7 RS n n σ2 x1 y3))
set_option maxRecDepth 100000 in
set_option maxHeartbeats 4000000 in
theorem tbc_X6_readProduct_0 {p : Program} {l : Launch} {e : Env} {s : State} {m : MethodId} {args : Array Value} {below : List Frame} {meth : Method} {c : Code} {D : va_G} {A : Nat → Prop} {ad : Nat → Nat} {cy : CY} {z : CZ} {r0 : Int32} {σ0 : CS} (kd : Nat) (RS : Nat → CS → Int32 → Option (Int32 × CS)) (hRS : ∀ (l : Launch) (D : va_G) (ad : Nat → Nat) (cy : CY) (z : CZ) (n : Nat) (σ : CS) (x : Int32) (r0 : Int32) (σ0 : CS), RS n σ x = some (r0, σ0) → cM l yX6_readSum wn_X6_readSum (rm_rs kd) D ad cy z [.ref (ad 1), .int x] σ none σ0) (hc : cxB RX6 wsC cX6_readProduct 4 none p s m args meth c) (hV : cV D cy z A s) (n : Nat) (σ : CS) (x1 : Int32) {H : Heap} {locs : List Loc} {ls : Array Slot} (hB : cB D ad cy A s.heap σ H locs) (hl : lv_has ls 4 [(0, .ref (ad 1)), (1, .int x1)]) (hf : fc_X6_readProduct_g RS n σ x1 = some (r0, σ0)) : W p l e (rm_X6_readProduct kd) s m args below meth c H locs 0 0 (MQ below (cQ D ad cy A none σ0) args s 0 0 A) (F0 m 0 ls []) := by
  obtain ⟨hx, hb, hml, hown, hts, hr, hlocks⟩ := id hc
  unfold fc_X6_readProduct_g at hf
  refine lv_aload_n hx hb dX6_readProduct_0 rfl (lv_at hl 0 rfl) ?_
  refine lv_iload_n hx hb dX6_readProduct_1 rfl (lv_at hl 1 rfl) ?_
  obtain ⟨r1, σ2, hkr1, hf⟩ := bd_e hf
  refine rc_callV (own := RX6) (av := [.int x1]) (rest := []) (rv := none) hx hb hml hown hts hl.1 hV hB 1 (c34 rfl hB) (ceq_1 _ _ _) rfl (cc_X6_readAtom_g kd RS hRS l D ad cy z n σ x1 hkr1) (kwc_X6_82 (kd := kd)  hts ⟨by dsimp only; omega, by dsimp only; omega⟩) rfl rfl (lv_room (Nat.le_of_ble_eq_true rfl)) dX6_readProduct_2 (Nat.le_refl _) (Nat.le_refl _) (fun H locs hB => ?_)
  refine W.eq (g2 := F0 m 5 ls []) rfl ?_
  refine lv_iconst (v := 0) hx hb dX6_readProduct_5 (by decide) ?_
  refine lv_topi (fun y3 ey3 => ?_)
  have hf := sq_e hf y3 ey3
  refine lv_istore_n (lv' := [(2, .int y3), (0, .ref (ad 1)), (1, .int x1)]) hx hb dX6_readProduct_6 rfl hl (by decide) rfl (fun ls hl => ?_)
  exact tlc_X6_readProduct_7 kd RS hRS hc hV n n σ2 x1 y3 _ _ _ hB (lv_sub hl [1, 2, 0] rfl) hf
theorem cc_X6_readProduct_g (kd : Nat) (RS : Nat → CS → Int32 → Option (Int32 × CS)) (hRS : ∀ (l : Launch) (D : va_G) (ad : Nat → Nat) (cy : CY) (z : CZ) (n : Nat) (σ : CS) (x : Int32) (r0 : Int32) (σ0 : CS), RS n σ x = some (r0, σ0) → cM l yX6_readSum wn_X6_readSum (rm_rs kd) D ad cy z [.ref (ad 1), .int x] σ none σ0) (l : Launch) (D : va_G) (ad : Nat → Nat) (cy : CY) (z : CZ) (n : Nat) (σ : CS) (x1 : Int32) {r0 : Int32} {σ0 : CS} (hf : fc_X6_readProduct_g RS n σ x1 = some (r0, σ0)) : cM l yX6_readProduct wn_X6_readProduct (rm_X6_readProduct kd) D ad cy z [.ref (ad 1), .int x1] σ none σ0 :=
  rc_met (ret := none) (by decide) rfl (Nat.le_of_ble_eq_true rfl) (fun p e s m below meth c A ls hc hV hB hl => tbc_X6_readProduct_0 kd RS hRS hc hV n σ x1 hB hl hf)
