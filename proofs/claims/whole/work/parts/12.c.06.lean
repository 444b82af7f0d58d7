/-! X6_readSum -/
theorem kwc_X6_76 {R : Room} {s : State} {args : Array Value} {kd : Nat} (hts : ∀ w ∈ wsC, w.before args s = true) (hR : (rm_X6_readProduct kd).frames + 1 ≤ R.frames ∧ 8 + (4 + 11) + (rm_X6_readProduct kd).locals ≤ R.locals) : CallW R s args RX6 RX6 76 yX6_readProduct cX6_readProduct 4 none wn_X6_readProduct (rm_X6_readProduct kd) 0 0 1 := cwV 1 hts (gC_v qc_331 qc_332 qc_333 qc_194 qc_326) rfl rfl rfl (by decide +kernel) hR
abbrev rm_X6_readSum (kd : Nat) : Room := { frames := 16 + 4 * kd, cells := 0, slots := 0, locals := 800 + 200 * kd }
def bc_X6_readSum_31 (RS : Nat → CS → Int32 → Option (Int32 × CS)) (n : Nat) (K7 : CS → Int32 → Int32 → Option ((Int32) × CS)) (σ : CS) (x1 : Int32) (x2 : Int32) : Option ((Int32) × CS) := bd (fc_X6_next n σ) (fun r1 σ2 => sq (cp σ2 1 4 ((σ2.1 1 4) + 1)) (fun σ3 => bd (fc_X6_readProduct_g RS n σ3 x1) (fun _ σ5 => bd (fc_X6_write n σ5 (-r1)) (fun _ σ7 => sq (x2 + 1 : Int32) (fun y8 => K7 σ7 x1 y8)))))
set_option maxRecDepth 100000 in
set_option maxHeartbeats 4000000 in
theorem tbc_X6_readSum_31 {p : Program} {l : Launch} {e : Env} {s : State} {m : MethodId} {args : Array Value} {below : List Frame} {meth : Method} {c : Code} {D : va_G} {A : Nat → Prop} {ad : Nat → Nat} {cy : CY} {z : CZ} {r0 : Int32} {σ0 : CS} (kd : Nat) (RS : Nat → CS → Int32 → Option (Int32 × CS)) (hRS : ∀ (l : Launch) (D : va_G) (ad : Nat → Nat) (cy : CY) (z : CZ) (n : Nat) (σ : CS) (x : Int32) (r0 : Int32) (σ0 : CS), RS n σ x = some (r0, σ0) → cM l yX6_readSum wn_X6_readSum (rm_rs kd) D ad cy z [.ref (ad 1), .int x] σ none σ0) (hc : cxB RX6 wsC cX6_readSum 4 none p s m args meth c) (hV : cV D cy z A s) (n : Nat) (K7 : CS → Int32 → Int32 → Option ((Int32) × CS)) (hK7 : ∀ (σ : CS) (x1 : Int32) (x2 : Int32) (H : Heap) (locs : List Loc) (ls : Array Slot), cB D ad cy A s.heap σ H locs → lv_has ls 4 [(0, .ref (ad 1)), (1, .int x1), (2, .int x2)] → K7 σ x1 x2 = some (r0, σ0) → W p l e (rm_X6_readSum kd) s m args below meth c H locs 0 0 (MQ below (cQ D ad cy A none σ0) args s 0 0 A) (F0 m 7 ls [])) (σ : CS) (x1 : Int32) (x2 : Int32) {H : Heap} {locs : List Loc} {ls : Array Slot} (hB : cB D ad cy A s.heap σ H locs) (hl : lv_has ls 4 [(0, .ref (ad 1)), (1, .int x1), (2, .int x2)]) (hf : bc_X6_readSum_31 RS n K7 σ x1 x2 = some (r0, σ0)) : W p l e (rm_X6_readSum kd) s m args below meth c H locs 0 0 (MQ below (cQ D ad cy A none σ0) args s 0 0 A) (F0 m 31 ls []) := by
  obtain ⟨hx, hb, hml, hown, hts, hr, hlocks⟩ := id hc
  unfold bc_X6_readSum_31 at hf
  refine lv_aload_n hx hb dX6_readSum_31 rfl (lv_at hl 0 rfl) ?_
  obtain ⟨r1, σ2, hkr1, hf⟩ := bd_e hf
  refine rc_callV (own := RX6) (av := []) (rest := []) (rv := (some (.int r1))) hx hb hml hown hts hl.1 hV hB 1 (c34 rfl hB) (ceq_1 _ _ _) rfl (cc_X6_next l D ad cy z n σ hkr1) (kwc_X6_31  hts ⟨by dsimp only; omega, by dsimp only; omega⟩) rfl rfl (lv_room (Nat.le_of_ble_eq_true rfl)) dX6_readSum_32 (Nat.le_refl _) (Nat.le_refl _) (fun H locs hB => ?_)
  refine W.eq (g2 := F0 m 35 ls [.int r1]) rfl ?_
  refine lv_istore_n (lv' := [(3, .int r1), (0, .ref (ad 1)), (1, .int x1), (2, .int x2)]) hx hb dX6_readSum_35 rfl hl (by decide) rfl (fun ls hl => ?_)
  refine lv_aload_n hx hb dX6_readSum_36 rfl (lv_at hl 1 rfl) ?_
  refine lv_dup hx hb dX6_readSum_37 rfl ?_
  refine rc_get (own := RX6) hx hb hts inC_6 hown hV hB 1 (c34 rfl hB) (ceq_1 _ _ _) rfl 4 (Nat.le_of_ble_eq_true rfl) qf_X6_59 rfl dX6_readSum_38 ?_
  refine lv_iconst (v := 1) hx hb dX6_readSum_41 (by decide) ?_
  refine lv_iadd hx hb dX6_readSum_42 ?_
  refine rc_puti (own := RX6) (ty := .int) hx hb hts inC_6 hown hV hB 1 (c34 rfl hB) (ceq_1 _ _ _) rfl 4 (Nat.le_of_ble_eq_true rfl) qf_X6_59 tyX6 tyX6_ok nmX6 (cst_1_4 _ _ _ _) rfl pdc_6_4 rfl rfl (Nat.le_of_ble_eq_true rfl) dX6_readSum_43 (fun σ3 eσ3 H locs hB => ?_)
  have hf := sq_e hf σ3 eσ3
  refine lv_aload_n hx hb dX6_readSum_46 rfl (lv_at hl 1 rfl) ?_
  refine lv_iload_n hx hb dX6_readSum_47 rfl (lv_at hl 2 rfl) ?_
  obtain ⟨r4, σ5, hkr4, hf⟩ := bd_e hf
  refine rc_callV (own := RX6) (av := [.int x1]) (rest := []) (rv := none) hx hb hml hown hts hl.1 hV hB 1 (c34 rfl hB) (ceq_1 _ _ _) rfl (cc_X6_readProduct_g kd RS hRS l D ad cy z n σ3 x1 hkr4) (kwc_X6_76 (kd := kd)  hts ⟨by dsimp only; omega, by dsimp only; omega⟩) rfl rfl (lv_room (Nat.le_of_ble_eq_true rfl)) dX6_readSum_48 (Nat.le_refl _) (Nat.le_refl _) (fun H locs hB => ?_)
  refine W.eq (g2 := F0 m 51 ls []) rfl ?_
  refine lv_aload_n hx hb dX6_readSum_51 rfl (lv_at hl 1 rfl) ?_
  refine lv_iload_n hx hb dX6_readSum_52 rfl (lv_at hl 0 rfl) ?_
  refine lv_ineg hx hb dX6_readSum_53 ?_
  obtain ⟨r6, σ7, hkr6, hf⟩ := bd_e hf
  refine rc_callV (own := RX6) (av := [.int (-r1)]) (rest := []) (rv := none) hx hb hml hown hts hl.1 hV hB 1 (c34 rfl hB) (ceq_1 _ _ _) rfl (cc_X6_write l D ad cy z n σ5 (-r1) hkr6) (kwc_X6_79  hts ⟨by dsimp only; omega, by dsimp only; omega⟩) rfl rfl (lv_room (Nat.le_of_ble_eq_true rfl)) dX6_readSum_54 (Nat.le_refl _) (Nat.le_refl _) (fun H locs hB => ?_)
  refine W.eq (g2 := F0 m 57 ls []) rfl ?_
  obtain ⟨y8, ey8⟩ : ∃ z : Int32, z = x2 + 1 := ⟨_, rfl⟩
  have hf := sq_e hf y8 ey8
  refine lv_iinc (v := y8) (lv' := [(2, .int y8), (3, .int r1), (0, .ref (ad 1)), (1, .int x1)]) hx hb dX6_readSum_57 hl (k := 3) rfl (by rw [ey8]; rfl) (by decide) rfl (fun ls hl => ?_)
  refine lv_goto (tgt := 7) hx hb dX6_readSum_60 (by decide) ?_
  exact hK7 σ7 x1 y8 _ _ _ hB (lv_sub hl [2, 3, 0] rfl) hf
def bc_X6_readSum_7 (RS : Nat → CS → Int32 → Option (Int32 × CS)) (n : Nat) (K7 : CS → Int32 → Int32 → Option ((Int32) × CS)) (σ : CS) (x1 : Int32) (x2 : Int32) : Option ((Int32) × CS) := if (20 ≤ x2) then (some (0, σ)) else (bd (fc_X6_next n σ) (fun r2 σ3 => if (r2 = 43) then (bc_X6_readSum_31 RS n K7 σ3 x1 x2) else (bd (fc_X6_next n σ3) (fun r5 σ6 => if (r5 = 45) then (bc_X6_readSum_31 RS n K7 σ6 x1 x2) else (some (0, σ6))))))
set_option maxRecDepth 100000 in
set_option maxHeartbeats 4000000 in
theorem tbc_X6_readSum_7 {p : Program} {l : Launch} {e : Env} {s : State} {m : MethodId} {args : Array Value} {below : List Frame} {meth : Method} {c : Code} {D : va_G} {A : Nat → Prop} {ad : Nat → Nat} {cy : CY} {z : CZ} {r0 : Int32} {σ0 : CS} (kd : Nat) (RS : Nat → CS → Int32 → Option (Int32 × CS)) (hRS : ∀ (l : Launch) (D : va_G) (ad : Nat → Nat) (cy : CY) (z : CZ) (n : Nat) (σ : CS) (x : Int32) (r0 : Int32) (σ0 : CS), RS n σ x = some (r0, σ0) → cM l yX6_readSum wn_X6_readSum (rm_rs kd) D ad cy z [.ref (ad 1), .int x] σ none σ0) (hc : cxB RX6 wsC cX6_readSum 4 none p s m args meth c) (hV : cV D cy z A s) (n : Nat) (K7 : CS → Int32 → Int32 → Option ((Int32) × CS)) (hK7 : ∀ (σ : CS) (x1 : Int32) (x2 : Int32) (H : Heap) (locs : List Loc) (ls : Array Slot), cB D ad cy A s.heap σ H locs → lv_has ls 4 [(0, .ref (ad 1)), (1, .int x1), (2, .int x2)] → K7 σ x1 x2 = some (r0, σ0) → W p l e (rm_X6_readSum kd) s m args below meth c H locs 0 0 (MQ below (cQ D ad cy A none σ0) args s 0 0 A) (F0 m 7 ls [])) (σ : CS) (x1 : Int32) (x2 : Int32) {H : Heap} {locs : List Loc} {ls : Array Slot} (hB : cB D ad cy A s.heap σ H locs) (hl : lv_has ls 4 [(0, .ref (ad 1)), (1, .int x1), (2, .int x2)]) (hf : bc_X6_readSum_7 RS n K7 σ x1 x2 = some (r0, σ0)) : W p l e (rm_X6_readSum kd) s m args below meth c H locs 0 0 (MQ below (cQ D ad cy A none σ0) args s 0 0 A) (F0 m 7 ls []) := by
  obtain ⟨hx, hb, hml, hown, hts, hr, hlocks⟩ := id hc
  unfold bc_X6_readSum_7 at hf
  refine lv_iload_n hx hb dX6_readSum_7 rfl (lv_at hl 2 rfl) ?_
  refine lv_bipush (v := 20) hx hb dX6_readSum_8 (by decide) ?_
  refine lv_icmp_ge (tgt := 63) hx hb dX6_readSum_10 (by decide) (fun c1 => ?_) (fun c1 => ?_)
  · have hf := it_t hf c1
    obtain ⟨rfl, rfl⟩ := so_e hf
    exact rc_vret hx hb hr hlocks hB dX6_readSum_63
  · have hf := it_f hf c1
    refine lv_aload_n hx hb dX6_readSum_13 rfl (lv_at hl 0 rfl) ?_
    obtain ⟨r2, σ3, hkr2, hf⟩ := bd_e hf
    refine rc_callV (own := RX6) (av := []) (rest := []) (rv := (some (.int r2))) hx hb hml hown hts hl.1 hV hB 1 (c34 rfl hB) (ceq_1 _ _ _) rfl (cc_X6_next l D ad cy z n σ hkr2) (kwc_X6_31  hts ⟨by dsimp only; omega, by dsimp only; omega⟩) rfl rfl (lv_room (Nat.le_of_ble_eq_true rfl)) dX6_readSum_14 (Nat.le_refl _) (Nat.le_refl _) (fun H locs hB => ?_)
    refine W.eq (g2 := F0 m 17 ls [.int r2]) rfl ?_
    refine lv_bipush (v := 43) hx hb dX6_readSum_17 (by decide) ?_
    refine lv_icmp_eq (tgt := 31) hx hb dX6_readSum_19 (by decide) (fun c4 => ?_) (fun c4 => ?_)
    · have hf := it_t hf c4
      exact tbc_X6_readSum_31 kd RS hRS hc hV n K7 hK7 σ3 x1 x2 hB (lv_sub hl [0, 1, 2] rfl) hf
    · have hf := it_f hf c4
      refine lv_aload_n hx hb dX6_readSum_22 rfl (lv_at hl 0 rfl) ?_
      obtain ⟨r5, σ6, hkr5, hf⟩ := bd_e hf
      refine rc_callV (own := RX6) (av := []) (rest := []) (rv := (some (.int r5))) hx hb hml hown hts hl.1 hV hB 1 (c34 rfl hB) (ceq_1 _ _ _) rfl (cc_X6_next l D ad cy z n σ3 hkr5) (kwc_X6_31  hts ⟨by dsimp only; omega, by dsimp only; omega⟩) rfl rfl (lv_room (Nat.le_of_ble_eq_true rfl)) dX6_readSum_23 (Nat.le_refl _) (Nat.le_refl _) (fun H locs hB => ?_)
      refine W.eq (g2 := F0 m 26 ls [.int r5]) rfl ?_
      refine lv_bipush (v := 45) hx hb dX6_readSum_26 (by decide) ?_
      refine lv_icmp_ne (tgt := 63) hx hb dX6_readSum_28 (by decide) (fun c7 => ?_) (fun c7 => ?_)
      · have hf := it_f hf c7
        obtain ⟨rfl, rfl⟩ := so_e hf
        exact rc_vret hx hb hr hlocks hB dX6_readSum_63
      · have hf := it_t hf c7
        exact tbc_X6_readSum_31 kd RS hRS hc hV n K7 hK7 σ6 x1 x2 hB (lv_sub hl [0, 1, 2] rfl) hf
def lc_X6_readSum_7 (RS : Nat → CS → Int32 → Option (Int32 × CS)) (n : Nat) : Nat → CS → Int32 → Int32 → Option ((Int32) × CS)
  | 0 => fun _ _ _ => none
  | k + 1 => bc_X6_readSum_7 RS n (lc_X6_readSum_7 RS n k)
theorem tlc_X6_readSum_7 {p : Program} {l : Launch} {e : Env} {s : State} {m : MethodId} {args : Array Value} {below : List Frame} {meth : Method} {c : Code} {D : va_G} {A : Nat → Prop} {ad : Nat → Nat} {cy : CY} {z : CZ} {r0 : Int32} {σ0 : CS} (kd : Nat) (RS : Nat → CS → Int32 → Option (Int32 × CS)) (hRS : ∀ (l : Launch) (D : va_G) (ad : Nat → Nat) (cy : CY) (z : CZ) (n : Nat) (σ : CS) (x : Int32) (r0 : Int32) (σ0 : CS), RS n σ x = some (r0, σ0) → cM l yX6_readSum wn_X6_readSum (rm_rs kd) D ad cy z [.ref (ad 1), .int x] σ none σ0) (hc : cxB RX6 wsC cX6_readSum 4 none p s m args meth c) (hV : cV D cy z A s) (n : Nat) : ∀ (k : Nat) (σ : CS) (x1 : Int32) (x2 : Int32) (H : Heap) (locs : List Loc) (ls : Array Slot), cB D ad cy A s.heap σ H locs → lv_has ls 4 [(0, .ref (ad 1)), (1, .int x1), (2, .int x2)] → lc_X6_readSum_7 RS n k σ x1 x2 = some (r0, σ0) → W p l e (rm_X6_readSum kd) s m args below meth c H locs 0 0 (MQ below (cQ D ad cy A none σ0) args s 0 0 A) (F0 m 7 ls []) := by
  intro k
  induction k with
  | zero =>
    intro σ x1 x2 H locs ls hB hl hf
    have hf : (none : Option ((Int32) × CS)) = some (r0, σ0) := hf
    cases hf
  | succ k ih =>
    intro σ x1 x2 H locs ls hB hl hf
    exact tbc_X6_readSum_7 kd RS hRS hc hV n (lc_X6_readSum_7 RS n k) ih σ x1 x2 hB hl hf
def fc_X6_readSum_g (RS : Nat → CS → Int32 → Option (Int32 × CS)) (n : Nat) (σ : CS) (x1 : Int32) : Option ((Int32) × CS) := bd (fc_X6_readProduct_g RS n σ x1) (fun _ σ2 => sq (0 : Int32) (fun y3 => lc_X6_readSum_7 RS n n σ2 x1 y3))
set_option maxRecDepth 100000 in
set_option maxHeartbeats 4000000 in
theorem tbc_X6_readSum_0 {p : Program} {l : Launch} {e : Env} {s : State} {m : MethodId} {args : Array Value} {below : List Frame} {meth : Method} {c : Code} {D : va_G} {A : Nat → Prop} {ad : Nat → Nat} {cy : CY} {z : CZ} {r0 : Int32} {σ0 : CS} (kd : Nat) (RS : Nat → CS → Int32 → Option (Int32 × CS)) (hRS : ∀ (l : Launch) (D : va_G) (ad : Nat → Nat) (cy : CY) (z : CZ) (n : Nat) (σ : CS) (x : Int32) (r0 : Int32) (σ0 : CS), RS n σ x = some (r0, σ0) → cM l yX6_readSum wn_X6_readSum (rm_rs kd) D ad cy z [.ref (ad 1), .int x] σ none σ0) (hc : cxB RX6 wsC cX6_readSum 4 none p s m args meth c) (hV : cV D cy z A s) (n : Nat) (σ : CS) (x1 : Int32) {H : Heap} {locs : List Loc} {ls : Array Slot} (hB : cB D ad cy A s.heap σ H locs) (hl : lv_has ls 4 [(0, .ref (ad 1)), (1, .int x1)]) (hf : fc_X6_readSum_g RS n σ x1 = some (r0, σ0)) : W p l e (rm_X6_readSum kd) s m args below meth c H locs 0 0 (MQ below (cQ D ad cy A none σ0) args s 0 0 A) (F0 m 0 ls []) := by
  obtain ⟨hx, hb, hml, hown, hts, hr, hlocks⟩ := id hc
  unfold fc_X6_readSum_g at hf
  refine lv_aload_n hx hb dX6_readSum_0 rfl (lv_at hl 0 rfl) ?_
  refine lv_iload_n hx hb dX6_readSum_1 rfl (lv_at hl 1 rfl) ?_
  obtain ⟨r1, σ2, hkr1, hf⟩ := bd_e hf
  refine rc_callV (own := RX6) (av := [.int x1]) (rest := []) (rv := none) hx hb hml hown hts hl.1 hV hB 1 (c34 rfl hB) (ceq_1 _ _ _) rfl (cc_X6_readProduct_g kd RS hRS l D ad cy z n σ x1 hkr1) (kwc_X6_76 (kd := kd)  hts ⟨by dsimp only; omega, by dsimp only; omega⟩) rfl rfl (lv_room (Nat.le_of_ble_eq_true rfl)) dX6_readSum_2 (Nat.le_refl _) (Nat.le_refl _) (fun H locs hB => ?_)
  refine W.eq (g2 := F0 m 5 ls []) rfl ?_
  refine lv_iconst (v := 0) hx hb dX6_readSum_5 (by decide) ?_
  refine lv_topi (fun y3 ey3 => ?_)
  have hf := sq_e hf y3 ey3
  refine lv_istore_n (lv' := [(2, .int y3), (0, .ref (ad 1)), (1, .int x1)]) hx hb dX6_readSum_6 rfl hl (by decide) rfl (fun ls hl => ?_)
  exact tlc_X6_readSum_7 kd RS hRS hc hV n n σ2 x1 y3 _ _ _ hB (lv_sub hl [1, 2, 0] rfl) hf
theorem cc_X6_readSum_g (kd : Nat) (RS : Nat → CS → Int32 → Option (Int32 × CS)) (hRS : ∀ (l : Launch) (D : va_G) (ad : Nat → Nat) (cy : CY) (z : CZ) (n : Nat) (σ : CS) (x : Int32) (r0 : Int32) (σ0 : CS), RS n σ x = some (r0, σ0) → cM l yX6_readSum wn_X6_readSum (rm_rs kd) D ad cy z [.ref (ad 1), .int x] σ none σ0) (l : Launch) (D : va_G) (ad : Nat → Nat) (cy : CY) (z : CZ) (n : Nat) (σ : CS) (x1 : Int32) {r0 : Int32} {σ0 : CS} (hf : fc_X6_readSum_g RS n σ x1 = some (r0, σ0)) : cM l yX6_readSum wn_X6_readSum (rm_X6_readSum kd) D ad cy z [.ref (ad 1), .int x1] σ none σ0 :=
  rc_met (ret := none) (by decide) rfl (Nat.le_of_ble_eq_true rfl) (fun p e s m below meth c A ls hc hV hB hl => tbc_X6_readSum_0 kd RS hRS hc hV n σ x1 hB hl hf)
def fc_X6_readSum : Nat → Nat → CS → Int32 → Option (Int32 × CS)
  | 0 => fun _ _ _ => none
  | k + 1 => fc_X6_readSum_g (fc_X6_readSum k)
theorem cc_X6_readSum : ∀ (kd : Nat) (l : Launch) (D : va_G) (ad : Nat → Nat) (cy : CY) (z : CZ) (n : Nat) (σ : CS) (x : Int32) (r0 : Int32) (σ0 : CS), fc_X6_readSum kd n σ x = some (r0, σ0) → cM l yX6_readSum wn_X6_readSum (rm_rs kd) D ad cy z [.ref (ad 1), .int x] σ none σ0 := by
  intro kd
  induction kd with
  | zero =>
    intro l D ad cy z n σ x r0 σ0 h
    have h : (none : Option (Int32 × CS)) = some (r0, σ0) := h
    cases h
  | succ k ih =>
    intro l D ad cy z n σ x r0 σ0 h
    have h2 := cc_X6_readSum_g k (fc_X6_readSum k) ih l D ad cy z n σ x h
    have e : rm_X6_readSum k = rm_rs (k + 1) := by
      show ({ frames := 16 + 4 * k, cells := 0, slots := 0, locals := 800 + 200 * k } : Room) = { frames := 12 + 4 * (k + 1), cells := 0, slots := 0, locals := 600 + 200 * (k + 1) }
      rw [show 12 + 4 * (k + 1) = 16 + 4 * k by omega, show 600 + 200 * (k + 1) = 800 + 200 * k by omega]
    rw [← e]
    exact h2
/-! X7_refuse -/
abbrev rm_X7_refuse : Room := { frames := 0, cells := 0, slots := 0, locals := 0 }
abbrev wn_X7_refuse : List Cond := .code yX7_refuse cX7_refuse 3 (some .int) :: wsC
def fc_X7_refuse (n : Nat) (σ : CS) (x1 : Int32) : Option ((Int32) × CS) := sq ((-x1) : Int32) (fun y1 => if (y1 < 1) then (some (x1, σ)) else (if ((Int32.ofNat 7) ≤ y1) then (some (x1, σ)) else (ck (ib y1 7) (sq ((σ.1 4 (Int32.toNatClampNeg y1)) : Int32) (fun y5 => ck (ib y1 7) (sq (cp σ 4 (Int32.toNatClampNeg y1) (y5 + 1)) (fun σ7 => some (x1, σ7))))))))
set_option maxRecDepth 100000 in
set_option maxHeartbeats 4000000 in
theorem tbc_X7_refuse_0 {p : Program} {l : Launch} {e : Env} {s : State} {m : MethodId} {args : Array Value} {below : List Frame} {meth : Method} {c : Code} {D : va_G} {A : Nat → Prop} {ad : Nat → Nat} {cy : CY} {z : CZ} {r0 : Int32} {σ0 : CS} (hc : cxB RX7 wsC cX7_refuse 3 (some .int) p s m args meth c) (hV : cV D cy z A s) (n : Nat) (σ : CS) (x1 : Int32) {H : Heap} {locs : List Loc} {ls : Array Slot} (hB : cB D ad cy A s.heap σ H locs) (hl : lv_has ls 3 [(0, .ref (ad 0)), (1, .int x1)]) (hf : fc_X7_refuse n σ x1 = some (r0, σ0)) : W p l e rm_X7_refuse s m args below meth c H locs 0 0 (MQ below (cQ D ad cy A (some (.int r0)) σ0) args s 0 0 A) (F0 m 0 ls []) := by
  obtain ⟨hx, hb, hml, hown, hts, hr, hlocks⟩ := id hc
  unfold fc_X7_refuse at hf
  refine lv_iload_n hx hb dX7_refuse_0 rfl (lv_at hl 1 rfl) ?_
  refine lv_ineg hx hb dX7_refuse_1 ?_
  refine lv_topi (fun y1 ey1 => ?_)
  have hf := sq_e hf y1 ey1
  refine lv_istore_n (lv' := [(2, .int y1), (0, .ref (ad 0)), (1, .int x1)]) hx hb dX7_refuse_2 rfl hl (by decide) rfl (fun ls hl => ?_)
  refine lv_iload_n hx hb dX7_refuse_3 rfl (lv_at hl 0 rfl) ?_
  refine lv_iconst (v := 1) hx hb dX7_refuse_4 (by decide) ?_
  refine lv_icmp_lt (tgt := 27) hx hb dX7_refuse_5 (by decide) (fun c2 => ?_) (fun c2 => ?_)
  · have hf := it_t hf c2
    refine lv_iload_n hx hb dX7_refuse_27 rfl (lv_at hl 2 rfl) ?_
    obtain ⟨rfl, rfl⟩ := so_e hf
    exact rc_iret hx hb hr hlocks hB dX7_refuse_28
  · have hf := it_f hf c2
    refine lv_iload_n hx hb dX7_refuse_8 rfl (lv_at hl 0 rfl) ?_
    refine lv_aload_n hx hb dX7_refuse_9 rfl (lv_at hl 1 rfl) ?_
    refine rc_get (own := RX7) hx hb hts inC_7 hown hV hB 0 (c34 rfl hB) (ceq_0 _ _ _) rfl 1 (Nat.le_of_ble_eq_true rfl) qf_X7_16 rfl dX7_refuse_10 ?_
    refine rc_alen hx hb hV hB 4 (c34 rfl hB) (ceq_4 _ _ _) rfl dX7_refuse_13 ?_
    refine lv_icmp_ge (tgt := 27) hx hb dX7_refuse_14 (by decide) (fun c3 => ?_) (fun c3 => ?_)
    · have hf := it_t hf c3
      refine lv_iload_n hx hb dX7_refuse_27 rfl (lv_at hl 2 rfl) ?_
      obtain ⟨rfl, rfl⟩ := so_e hf
      exact rc_iret hx hb hr hlocks hB dX7_refuse_28
    · have hf := it_f hf c3
      refine lv_aload_n hx hb dX7_refuse_17 rfl (lv_at hl 1 rfl) ?_
      refine rc_get (own := RX7) hx hb hts inC_7 hown hV hB 0 (c34 rfl hB) (ceq_0 _ _ _) rfl 1 (Nat.le_of_ble_eq_true rfl) qf_X7_16 rfl dX7_refuse_18 ?_
      refine lv_iload_n hx hb dX7_refuse_21 rfl (lv_at hl 0 rfl) ?_
      refine lv_dup2_11 hx hb dX7_refuse_22 rfl rfl ?_
      obtain ⟨k4, hf⟩ := ck_e hf
      refine rc_ald hx hb hV hB 4 (c34 rfl hB) (ceq_4 _ _ _) k4 dX7_refuse_23 ?_
      refine lv_topi (fun y5 ey5 => ?_)
      have hf := sq_e hf y5 ey5
      refine lv_iconst (v := 1) hx hb dX7_refuse_24 (by decide) ?_
      refine lv_iadd hx hb dX7_refuse_25 ?_
      obtain ⟨k6, hf⟩ := ck_e hf
      refine rc_ast hx hb hV hB 4 (c34 rfl hB) (ceq_4 _ _ _) (fun _ => rfl) k6 dX7_refuse_26 (fun σ7 eσ7 H locs hB => ?_)
      have hf := sq_e hf σ7 eσ7
      refine lv_iload_n hx hb dX7_refuse_27 rfl (lv_at hl 2 rfl) ?_
      obtain ⟨rfl, rfl⟩ := so_e hf
      exact rc_iret hx hb hr hlocks hB dX7_refuse_28
theorem cc_X7_refuse (l : Launch) (D : va_G) (ad : Nat → Nat) (cy : CY) (z : CZ) (n : Nat) (σ : CS) (x1 : Int32) {r0 : Int32} {σ0 : CS} (hf : fc_X7_refuse n σ x1 = some (r0, σ0)) : cM l yX7_refuse wn_X7_refuse rm_X7_refuse D ad cy z [.ref (ad 0), .int x1] σ (some (.int r0)) σ0 :=
  rc_met (ret := (some .int)) (by decide) rfl (Nat.le_of_ble_eq_true rfl) (fun p e s m below meth c A ls hc hV hB hl => tbc_X7_refuse_0 hc hV n σ x1 hB hl hf)
/-! X7_feed -/
theorem kwc_X7_43 {R : Room} {s : State} {args : Array Value} (hts : ∀ w ∈ wsC, w.before args s = true) (hR : rm_X7_refuse.frames + 1 ≤ R.frames ∧ 8 + (3 + 11) + rm_X7_refuse.locals ≤ R.locals) : CallW R s args RX7 RX7 43 yX7_refuse cX7_refuse 3 (some .int) wn_X7_refuse rm_X7_refuse 0 0 1 := cwV 1 hts (gC_v qc_368 qc_369 qc_370 qc_85 qc_366) rfl rfl rfl (by decide +kernel) hR
theorem kwc_X7_51 {R : Room} {s : State} {args : Array Value} (hts : ∀ w ∈ wsC, w.before args s = true) (hR : rm_X6_append.frames + 1 ≤ R.frames ∧ 8 + (5 + 11) + rm_X6_append.locals ≤ R.locals) : CallW R s args RX7 RX6 51 yX6_append cX6_append 5 none wn_X6_append rm_X6_append 0 0 2 := cwV 2 hts (gC_v qc_371 qc_372 qc_373 qc_194 qc_374) rfl rfl rfl (by decide +kernel) hR
abbrev rm_X7_feed : Room := { frames := 1, cells := 0, slots := 0, locals := 24 }
abbrev wn_X7_feed : List Cond := .code yX7_feed cX7_feed 4 (some .int) :: wsC
def fc_X7_feed (n : Nat) (σ : CS) (x1 : Int32) (x2 : Int64) : Option ((Int32) × CS) := if (1 ≤ x1) then (if (8 < x1) then (bd (fc_X7_refuse n σ (-6)) (fun r3 σ4 => some (r3, σ4))) else (if (((σ.1 1 2) + x1) ≤ 20) then (bd (fc_X6_append n σ x1 x2) (fun _ σ7 => some ((σ7.1 1 2), σ7))) else (bd (fc_X7_refuse n σ (-6)) (fun r8 σ9 => some (r8, σ9))))) else (bd (fc_X7_refuse n σ (-4)) (fun r10 σ11 => some (r10, σ11)))
set_option maxRecDepth 100000 in
set_option maxHeartbeats 4000000 in
theorem tbc_X7_feed_0 {p : Program} {l : Launch} {e : Env} {s : State} {m : MethodId} {args : Array Value} {below : List Frame} {meth : Method} {c : Code} {D : va_G} {A : Nat → Prop} {ad : Nat → Nat} {cy : CY} {z : CZ} {r0 : Int32} {σ0 : CS} (hc : cxB RX7 wsC cX7_feed 4 (some .int) p s m args meth c) (hV : cV D cy z A s) (n : Nat) (σ : CS) (x1 : Int32) (x2 : Int64) {H : Heap} {locs : List Loc} {ls : Array Slot} (hB : cB D ad cy A s.heap σ H locs) (hl : lv_has ls 4 [(0, .ref (ad 0)), (1, .int x1), (2, .long x2)]) (hf : fc_X7_feed n σ x1 x2 = some (r0, σ0)) : W p l e rm_X7_feed s m args below meth c H locs 0 0 (MQ below (cQ D ad cy A (some (.int r0)) σ0) args s 0 0 A) (F0 m 0 ls []) := by
  obtain ⟨hx, hb, hml, hown, hts, hr, hlocks⟩ := id hc
  unfold fc_X7_feed at hf
  refine lv_iload_n hx hb dX7_feed_0 rfl (lv_at hl 1 rfl) ?_
  refine lv_iconst (v := 1) hx hb dX7_feed_1 (by decide) ?_
  refine lv_icmp_ge (tgt := 12) hx hb dX7_feed_2 (by decide) (fun c1 => ?_) (fun c1 => ?_)
  · have hf := it_t hf c1
    refine lv_iload_n hx hb dX7_feed_12 rfl (lv_at hl 1 rfl) ?_
    refine lv_bipush (v := 8) hx hb dX7_feed_13 (by decide) ?_
    refine lv_icmp_gt (tgt := 32) hx hb dX7_feed_15 (by decide) (fun c2 => ?_) (fun c2 => ?_)
    · have hf := it_t hf c2
      refine lv_aload_n hx hb dX7_feed_32 rfl (lv_at hl 0 rfl) ?_
      refine lv_bipush (v := (-6)) hx hb dX7_feed_33 (by decide) ?_
      obtain ⟨r3, σ4, hkr3, hf⟩ := bd_e hf
      refine rc_callV (own := RX7) (av := [.int (-6)]) (rest := []) (rv := (some (.int r3))) hx hb hml hown hts hl.1 hV hB 0 (c34 rfl hB) (ceq_0 _ _ _) rfl (cc_X7_refuse l D ad cy z n σ (-6) hkr3) (kwc_X7_43  hts ⟨Nat.le_of_ble_eq_true rfl, Nat.le_of_ble_eq_true rfl⟩) rfl rfl (lv_room (Nat.le_of_ble_eq_true rfl)) dX7_feed_35 (Nat.le_refl _) (Nat.le_refl _) (fun H locs hB => ?_)
      refine W.eq (g2 := F0 m 38 ls [.int r3]) rfl ?_
      obtain ⟨rfl, rfl⟩ := so_e hf
      exact rc_iret hx hb hr hlocks hB dX7_feed_38
    · have hf := it_f hf c2
      refine lv_aload_n hx hb dX7_feed_18 rfl (lv_at hl 0 rfl) ?_
      refine rc_get (own := RX7) hx hb hts inC_7 hown hV hB 0 (c34 rfl hB) (ceq_0 _ _ _) rfl 0 (Nat.le_of_ble_eq_true rfl) qf_X7_10 rfl dX7_feed_19 ?_
      refine rc_get (own := RX7) hx hb hts inC_6 hown hV hB 1 (c34 rfl hB) (ceq_1 _ _ _) rfl 2 (Nat.le_of_ble_eq_true rfl) qf_X7_47 rfl dX7_feed_22 ?_
      refine lv_iload_n hx hb dX7_feed_25 rfl (lv_at hl 1 rfl) ?_
      refine lv_iadd hx hb dX7_feed_26 ?_
      refine lv_bipush (v := 20) hx hb dX7_feed_27 (by decide) ?_
      refine lv_icmp_le (tgt := 39) hx hb dX7_feed_29 (by decide) (fun c5 => ?_) (fun c5 => ?_)
      · have hf := it_t hf c5
        refine lv_aload_n hx hb dX7_feed_39 rfl (lv_at hl 0 rfl) ?_
        refine rc_get (own := RX7) hx hb hts inC_7 hown hV hB 0 (c34 rfl hB) (ceq_0 _ _ _) rfl 0 (Nat.le_of_ble_eq_true rfl) qf_X7_10 rfl dX7_feed_40 ?_
        refine lv_iload_n hx hb dX7_feed_43 rfl (lv_at hl 1 rfl) ?_
        refine lv_lload_n hx hb dX7_feed_44 rfl (lv_at hl 2 rfl) ?_
        obtain ⟨r6, σ7, hkr6, hf⟩ := bd_e hf
        refine rc_callV (own := RX7) (av := [.int x1, .long x2]) (rest := []) (rv := none) hx hb hml hown hts hl.1 hV hB 1 (c34 rfl hB) (ceq_1 _ _ _) rfl (cc_X6_append l D ad cy z n σ x1 x2 hkr6) (kwc_X7_51  hts ⟨Nat.le_of_ble_eq_true rfl, Nat.le_of_ble_eq_true rfl⟩) rfl rfl (lv_room (Nat.le_of_ble_eq_true rfl)) dX7_feed_45 (Nat.le_refl _) (Nat.le_refl _) (fun H locs hB => ?_)
        refine W.eq (g2 := F0 m 48 ls []) rfl ?_
        refine lv_aload_n hx hb dX7_feed_48 rfl (lv_at hl 0 rfl) ?_
        refine rc_get (own := RX7) hx hb hts inC_7 hown hV hB 0 (c34 rfl hB) (ceq_0 _ _ _) rfl 0 (Nat.le_of_ble_eq_true rfl) qf_X7_10 rfl dX7_feed_49 ?_
        refine rc_get (own := RX7) hx hb hts inC_6 hown hV hB 1 (c34 rfl hB) (ceq_1 _ _ _) rfl 2 (Nat.le_of_ble_eq_true rfl) qf_X7_47 rfl dX7_feed_52 ?_
        obtain ⟨rfl, rfl⟩ := so_e hf
        exact rc_iret hx hb hr hlocks hB dX7_feed_55
      · have hf := it_f hf c5
        refine lv_aload_n hx hb dX7_feed_32 rfl (lv_at hl 0 rfl) ?_
        refine lv_bipush (v := (-6)) hx hb dX7_feed_33 (by decide) ?_
        obtain ⟨r8, σ9, hkr8, hf⟩ := bd_e hf
        refine rc_callV (own := RX7) (av := [.int (-6)]) (rest := []) (rv := (some (.int r8))) hx hb hml hown hts hl.1 hV hB 0 (c34 rfl hB) (ceq_0 _ _ _) rfl (cc_X7_refuse l D ad cy z n σ (-6) hkr8) (kwc_X7_43  hts ⟨Nat.le_of_ble_eq_true rfl, Nat.le_of_ble_eq_true rfl⟩) rfl rfl (lv_room (Nat.le_of_ble_eq_true rfl)) dX7_feed_35 (Nat.le_refl _) (Nat.le_refl _) (fun H locs hB => ?_)
        refine W.eq (g2 := F0 m 38 ls [.int r8]) rfl ?_
        obtain ⟨rfl, rfl⟩ := so_e hf
        exact rc_iret hx hb hr hlocks hB dX7_feed_38
  · have hf := it_f hf c1
    refine lv_aload_n hx hb dX7_feed_5 rfl (lv_at hl 0 rfl) ?_
    refine lv_bipush (v := (-4)) hx hb dX7_feed_6 (by decide) ?_
    obtain ⟨r10, σ11, hkr10, hf⟩ := bd_e hf
    refine rc_callV (own := RX7) (av := [.int (-4)]) (rest := []) (rv := (some (.int r10))) hx hb hml hown hts hl.1 hV hB 0 (c34 rfl hB) (ceq_0 _ _ _) rfl (cc_X7_refuse l D ad cy z n σ (-4) hkr10) (kwc_X7_43  hts ⟨Nat.le_of_ble_eq_true rfl, Nat.le_of_ble_eq_true rfl⟩) rfl rfl (lv_room (Nat.le_of_ble_eq_true rfl)) dX7_feed_8 (Nat.le_refl _) (Nat.le_refl _) (fun H locs hB => ?_)
    refine W.eq (g2 := F0 m 11 ls [.int r10]) rfl ?_
    obtain ⟨rfl, rfl⟩ := so_e hf
    exact rc_iret hx hb hr hlocks hB dX7_feed_11
theorem cc_X7_feed (l : Launch) (D : va_G) (ad : Nat → Nat) (cy : CY) (z : CZ) (n : Nat) (σ : CS) (x1 : Int32) (x2 : Int64) {r0 : Int32} {σ0 : CS} (hf : fc_X7_feed n σ x1 x2 = some (r0, σ0)) : cM l yX7_feed wn_X7_feed rm_X7_feed D ad cy z [.ref (ad 0), .int x1, .long x2] σ (some (.int r0)) σ0 :=
  rc_met (ret := (some .int)) (by decide) rfl (Nat.le_of_ble_eq_true rfl) (fun p e s m below meth c A ls hc hV hB hl => tbc_X7_feed_0 hc hV n σ x1 x2 hB hl hf)
/-! X7_plateOf -/
theorem kwc_X7_69 {R : Room} {s : State} {args : Array Value} (hts : ∀ w ∈ wsC, w.before args s = true) (hR : rm_X0_plateAt.frames + 1 ≤ R.frames ∧ 8 + (2 + 11) + rm_X0_plateAt.locals ≤ R.locals) : CallW R s args RX7 RX0 69 yX0_plateAt cX0_plateAt 2 (some (.object "PlateRings$Plate")) wn_X0_plateAt rm_X0_plateAt 0 0 1 := cwV 1 hts (gC_v qc_390 qc_391 qc_392 qc_126 qc_393) rfl rfl rfl (by decide +kernel) hR
abbrev rm_X7_plateOf : Room := { frames := 1, cells := 0, slots := 0, locals := 22 }
abbrev wn_X7_plateOf : List Cond := .code yX7_plateOf cX7_plateOf 4 (some .int) :: wsC
def fc_X7_plateOf (n : Nat) (σ : CS) (x1 : Int32) (x2 : Int32) : Option ((Int32) × CS) := bd (fc_X0_plateAt n σ x1) (fun r1 σ2 => oc r1 (bd (fc_X7_refuse n σ2 (-1)) (fun r4 σ5 => some (r4, σ5))) (fun q3 => if (x2 = 0) then (ck (pk σ2 q3 3) (some ((σ2.1 q3 0), σ2))) else (if (x2 = 1) then (ck (pk σ2 q3 3) (some ((σ2.1 q3 1), σ2))) else (if (x2 = 2) then (ck (pk σ2 q3 3) (some ((σ2.1 q3 2), σ2))) else (if (x2 = 3) then (ck (pk σ2 q3 3) (some ((σ2.1 q3 3), σ2))) else (if (x2 = 4) then (ck (pk σ2 q3 3) (some ((σ2.1 q3 4), σ2))) else (bd (fc_X7_refuse n σ2 (-2)) (fun r6 σ7 => some (r6, σ7)))))))))
set_option maxRecDepth 100000 in
set_option maxHeartbeats 4000000 in
theorem tbc_X7_plateOf_0 {p : Program} {l : Launch} {e : Env} {s : State} {m : MethodId} {args : Array Value} {below : List Frame} {meth : Method} {c : Code} {D : va_G} {A : Nat → Prop} {ad : Nat → Nat} {cy : CY} {z : CZ} {r0 : Int32} {σ0 : CS} (hc : cxB RX7 wsC cX7_plateOf 4 (some .int) p s m args meth c) (hV : cV D cy z A s) (n : Nat) (σ : CS) (x1 : Int32) (x2 : Int32) {H : Heap} {locs : List Loc} {ls : Array Slot} (hB : cB D ad cy A s.heap σ H locs) (hl : lv_has ls 4 [(0, .ref (ad 0)), (1, .int x1), (2, .int x2)]) (hf : fc_X7_plateOf n σ x1 x2 = some (r0, σ0)) : W p l e rm_X7_plateOf s m args below meth c H locs 0 0 (MQ below (cQ D ad cy A (some (.int r0)) σ0) args s 0 0 A) (F0 m 0 ls []) := by
  obtain ⟨hx, hb, hml, hown, hts, hr, hlocks⟩ := id hc
  unfold fc_X7_plateOf at hf
  refine lv_aload_n hx hb dX7_plateOf_0 rfl (lv_at hl 0 rfl) ?_
  refine rc_get (own := RX7) hx hb hts inC_7 hown hV hB 0 (c34 rfl hB) (ceq_0 _ _ _) rfl 2 (Nat.le_of_ble_eq_true rfl) qf_X7_23 rfl dX7_plateOf_1 ?_
  refine lv_iload_n hx hb dX7_plateOf_4 rfl (lv_at hl 1 rfl) ?_
  obtain ⟨r1, σ2, hkr1, hf⟩ := bd_e hf
  refine rc_callV (own := RX7) (av := [.int x1]) (rest := []) (rv := (some (va_rf (Option.map ad r1)))) hx hb hml hown hts hl.1 hV hB 5 (c34 rfl hB) (ceq_5 _ _ _) rfl (cc_X0_plateAt l D ad cy z n σ x1 hkr1) (kwc_X7_69  hts ⟨Nat.le_of_ble_eq_true rfl, Nat.le_of_ble_eq_true rfl⟩) rfl rfl (lv_room (Nat.le_of_ble_eq_true rfl)) dX7_plateOf_5 (Nat.le_refl _) (Nat.le_refl _) (fun H locs hB => ?_)
  refine W.eq (g2 := F0 m 8 ls [va_rf (Option.map ad r1)]) rfl ?_
  rcases r1 with _ | q3
  · have hf := oc_n hf
    refine lv_astore_nN (lv' := [(3, .null), (0, .ref (ad 0)), (1, .int x1), (2, .int x2)]) hx hb dX7_plateOf_8 rfl hl (by decide) rfl (fun ls hl => ?_)
    refine lv_aload_nN hx hb dX7_plateOf_9 rfl (lv_at hl 0 rfl) ?_
    refine lv_ifnonnullN hx hb dX7_plateOf_10 ?_
    refine lv_aload_n hx hb dX7_plateOf_13 rfl (lv_at hl 1 rfl) ?_
    refine lv_iconst (v := (-1)) hx hb dX7_plateOf_14 (by decide) ?_
    obtain ⟨r4, σ5, hkr4, hf⟩ := bd_e hf
    refine rc_callV (own := RX7) (av := [.int (-1)]) (rest := []) (rv := (some (.int r4))) hx hb hml hown hts hl.1 hV hB 0 (c34 rfl hB) (ceq_0 _ _ _) rfl (cc_X7_refuse l D ad cy z n σ2 (-1) hkr4) (kwc_X7_43  hts ⟨Nat.le_of_ble_eq_true rfl, Nat.le_of_ble_eq_true rfl⟩) rfl rfl (lv_room (Nat.le_of_ble_eq_true rfl)) dX7_plateOf_15 (Nat.le_refl _) (Nat.le_refl _) (fun H locs hB => ?_)
    refine W.eq (g2 := F0 m 18 ls [.int r4]) rfl ?_
    obtain ⟨rfl, rfl⟩ := so_e hf
    exact rc_iret hx hb hr hlocks hB dX7_plateOf_18
  · have hf := oc_s hf
    refine lv_astore_n (lv' := [(3, .ref (ad q3)), (0, .ref (ad 0)), (1, .int x1), (2, .int x2)]) hx hb dX7_plateOf_8 rfl hl (by decide) rfl (fun ls hl => ?_)
    refine lv_aload_n hx hb dX7_plateOf_9 rfl (lv_at hl 0 rfl) ?_
    refine lv_ifnonnull (tgt := 19) hx hb dX7_plateOf_10 (by decide) ?_
    refine lv_iload_n hx hb dX7_plateOf_19 rfl (lv_at hl 3 rfl) ?_
    by_cases c8 : x2 = 0
    · have hf := it_t hf c8
      refine lv_tableIn (tgt := 56) hx hb dX7_plateOf_20 (by rw [c8]; decide) (by rw [c8]; decide) (by rw [c8]; rfl) (by decide) ?_
      refine lv_aload_n hx hb dX7_plateOf_56 rfl (lv_at hl 0 rfl) ?_
      obtain ⟨k17, hf⟩ := ck_e hf
      refine rc_get (own := RX7) hx hb hts inC_3 hown hV hB q3 (pk_s k17).2.1 (ceq_P k17) rfl 0 (Nat.le_of_ble_eq_true rfl) qf_X7_73 rfl dX7_plateOf_57 ?_
      obtain ⟨rfl, rfl⟩ := so_e hf
      exact rc_iret hx hb hr hlocks hB dX7_plateOf_60
    · have hf := it_f hf c8
      by_cases c9 : x2 = 1
      · have hf := it_t hf c9
        refine lv_tableIn (tgt := 61) hx hb dX7_plateOf_20 (by rw [c9]; decide) (by rw [c9]; decide) (by rw [c9]; rfl) (by decide) ?_
        refine lv_aload_n hx hb dX7_plateOf_61 rfl (lv_at hl 0 rfl) ?_
        obtain ⟨k16, hf⟩ := ck_e hf
        refine rc_get (own := RX7) hx hb hts inC_3 hown hV hB q3 (pk_s k16).2.1 (ceq_P k16) rfl 1 (Nat.le_of_ble_eq_true rfl) qf_X7_78 rfl dX7_plateOf_62 ?_
        obtain ⟨rfl, rfl⟩ := so_e hf
        exact rc_iret hx hb hr hlocks hB dX7_plateOf_65
      · have hf := it_f hf c9
        by_cases c10 : x2 = 2
        · have hf := it_t hf c10
          refine lv_tableIn (tgt := 66) hx hb dX7_plateOf_20 (by rw [c10]; decide) (by rw [c10]; decide) (by rw [c10]; rfl) (by decide) ?_
          refine lv_aload_n hx hb dX7_plateOf_66 rfl (lv_at hl 0 rfl) ?_
          obtain ⟨k15, hf⟩ := ck_e hf
          refine rc_get (own := RX7) hx hb hts inC_3 hown hV hB q3 (pk_s k15).2.1 (ceq_P k15) rfl 2 (Nat.le_of_ble_eq_true rfl) qf_X7_81 rfl dX7_plateOf_67 ?_
          obtain ⟨rfl, rfl⟩ := so_e hf
          exact rc_iret hx hb hr hlocks hB dX7_plateOf_70
        · have hf := it_f hf c10
          by_cases c11 : x2 = 3
          · have hf := it_t hf c11
            refine lv_tableIn (tgt := 71) hx hb dX7_plateOf_20 (by rw [c11]; decide) (by rw [c11]; decide) (by rw [c11]; rfl) (by decide) ?_
            refine lv_aload_n hx hb dX7_plateOf_71 rfl (lv_at hl 0 rfl) ?_
            obtain ⟨k14, hf⟩ := ck_e hf
            refine rc_get (own := RX7) hx hb hts inC_3 hown hV hB q3 (pk_s k14).2.1 (ceq_P k14) rfl 3 (Nat.le_of_ble_eq_true rfl) qf_X7_84 rfl dX7_plateOf_72 ?_
            obtain ⟨rfl, rfl⟩ := so_e hf
            exact rc_iret hx hb hr hlocks hB dX7_plateOf_75
          · have hf := it_f hf c11
            by_cases c12 : x2 = 4
            · have hf := it_t hf c12
              refine lv_tableIn (tgt := 76) hx hb dX7_plateOf_20 (by rw [c12]; decide) (by rw [c12]; decide) (by rw [c12]; rfl) (by decide) ?_
              refine lv_aload_n hx hb dX7_plateOf_76 rfl (lv_at hl 0 rfl) ?_
              obtain ⟨k13, hf⟩ := ck_e hf
              refine rc_get (own := RX7) hx hb hts inC_3 hown hV hB q3 (pk_s k13).2.1 (ceq_P k13) rfl 4 (Nat.le_of_ble_eq_true rfl) qf_X7_87 rfl dX7_plateOf_77 ?_
              obtain ⟨rfl, rfl⟩ := so_e hf
              exact rc_iret hx hb hr hlocks hB dX7_plateOf_80
            · have hf := it_f hf c12
              refine sw_d (tgt := 81) hx hb dX7_plateOf_20 (by have n_0 := lv_neT c8 (a := 0) (by decide); have n_1 := lv_neT c9 (a := 1) (by decide); have n_2 := lv_neT c10 (a := 2) (by decide); have n_3 := lv_neT c11 (a := 3) (by decide); have n_4 := lv_neT c12 (a := 4) (by decide); rcases (show (x2).toInt < 0 ∨ 4 < (x2).toInt by omega) with q | q; exact Or.inl q; exact Or.inr (Or.inl q)) (by decide) ?_
              refine lv_aload_n hx hb dX7_plateOf_81 rfl (lv_at hl 1 rfl) ?_
              refine lv_bipush (v := (-2)) hx hb dX7_plateOf_82 (by decide) ?_
              obtain ⟨r6, σ7, hkr6, hf⟩ := bd_e hf
              refine rc_callV (own := RX7) (av := [.int (-2)]) (rest := []) (rv := (some (.int r6))) hx hb hml hown hts hl.1 hV hB 0 (c34 rfl hB) (ceq_0 _ _ _) rfl (cc_X7_refuse l D ad cy z n σ2 (-2) hkr6) (kwc_X7_43  hts ⟨Nat.le_of_ble_eq_true rfl, Nat.le_of_ble_eq_true rfl⟩) rfl rfl (lv_room (Nat.le_of_ble_eq_true rfl)) dX7_plateOf_84 (Nat.le_refl _) (Nat.le_refl _) (fun H locs hB => ?_)
              refine W.eq (g2 := F0 m 87 ls [.int r6]) rfl ?_
              obtain ⟨rfl, rfl⟩ := so_e hf
              exact rc_iret hx hb hr hlocks hB dX7_plateOf_87
theorem cc_X7_plateOf (l : Launch) (D : va_G) (ad : Nat → Nat) (cy : CY) (z : CZ) (n : Nat) (σ : CS) (x1 : Int32) (x2 : Int32) {r0 : Int32} {σ0 : CS} (hf : fc_X7_plateOf n σ x1 x2 = some (r0, σ0)) : cM l yX7_plateOf wn_X7_plateOf rm_X7_plateOf D ad cy z [.ref (ad 0), .int x1, .int x2] σ (some (.int r0)) σ0 :=
  rc_met (ret := (some .int)) (by decide) rfl (Nat.le_of_ble_eq_true rfl) (fun p e s m below meth c A ls hc hV hB hl => tbc_X7_plateOf_0 hc hV n σ x1 x2 hB hl hf)
/-! X7_lossOf -/
theorem kwc_X7_106 {R : Room} {s : State} {args : Array Value} (hts : ∀ w ∈ wsC, w.before args s = true) (hR : rm_X0_lossAt.frames + 1 ≤ R.frames ∧ 8 + (2 + 11) + rm_X0_lossAt.locals ≤ R.locals) : CallW R s args RX7 RX0 106 yX0_lossAt cX0_lossAt 2 (some (.object "PlateRings$Loss")) wn_X0_lossAt rm_X0_lossAt 0 0 1 := cwV 1 hts (gC_v qc_412 qc_124 qc_125 qc_126 qc_127) rfl rfl rfl (by decide +kernel) hR
theorem kwc_X7_123 {R : Room} {s : State} {args : Array Value} (hts : ∀ w ∈ wsC, w.before args s = true) (hR : rm_X5_tookOf.frames + 1 ≤ R.frames ∧ 8 + (2 + 11) + rm_X5_tookOf.locals ≤ R.locals) : CallW R s args RX7 RX5 123 yX5_tookOf cX5_tookOf 2 (some .int) wn_X5_tookOf rm_X5_tookOf 0 0 1 := cwV 1 hts (gC_v qc_413 qc_414 qc_415 qc_14 qc_416) rfl rfl rfl (by decide +kernel) hR
abbrev rm_X7_lossOf : Room := { frames := 1, cells := 0, slots := 0, locals := 22 }
abbrev wn_X7_lossOf : List Cond := .code yX7_lossOf cX7_lossOf 4 (some .int) :: wsC
def fc_X7_lossOf (n : Nat) (σ : CS) (x1 : Int32) (x2 : Int32) : Option ((Int32) × CS) := bd (fc_X0_lossAt n σ x1) (fun r1 σ2 => oc r1 (bd (fc_X7_refuse n σ2 (-1)) (fun r4 σ5 => some (r4, σ5))) (fun q3 => if (x2 = 0) then (ck (pk σ2 q3 1) (some ((σ2.1 q3 0), σ2))) else (if (x2 = 1) then (ck (pk σ2 q3 1) (some ((σ2.1 q3 1), σ2))) else (if (x2 = 2) then (ck (pk σ2 q3 1) (some ((σ2.1 q3 2), σ2))) else (if (x2 = 3) then (bd (fc_X5_tookOf n σ2 x1) (fun r12 σ13 => some (r12, σ13))) else (bd (fc_X7_refuse n σ2 (-2)) (fun r6 σ7 => some (r6, σ7))))))))
set_option maxRecDepth 100000 in
set_option maxHeartbeats 4000000 in
theorem tbc_X7_lossOf_0 {p : Program} {l : Launch} {e : Env} {s : State} {m : MethodId} {args : Array Value} {below : List Frame} {meth : Method} {c : Code} {D : va_G} {A : Nat → Prop} {ad : Nat → Nat} {cy : CY} {z : CZ} {r0 : Int32} {σ0 : CS} (hc : cxB RX7 wsC cX7_lossOf 4 (some .int) p s m args meth c) (hV : cV D cy z A s) (n : Nat) (σ : CS) (x1 : Int32) (x2 : Int32) {H : Heap} {locs : List Loc} {ls : Array Slot} (hB : cB D ad cy A s.heap σ H locs) (hl : lv_has ls 4 [(0, .ref (ad 0)), (1, .int x1), (2, .int x2)]) (hf : fc_X7_lossOf n σ x1 x2 = some (r0, σ0)) : W p l e rm_X7_lossOf s m args below meth c H locs 0 0 (MQ below (cQ D ad cy A (some (.int r0)) σ0) args s 0 0 A) (F0 m 0 ls []) := by
  obtain ⟨hx, hb, hml, hown, hts, hr, hlocks⟩ := id hc
  unfold fc_X7_lossOf at hf
  refine lv_aload_n hx hb dX7_lossOf_0 rfl (lv_at hl 0 rfl) ?_
  refine rc_get (own := RX7) hx hb hts inC_7 hown hV hB 0 (c34 rfl hB) (ceq_0 _ _ _) rfl 2 (Nat.le_of_ble_eq_true rfl) qf_X7_23 rfl dX7_lossOf_1 ?_
  refine lv_iload_n hx hb dX7_lossOf_4 rfl (lv_at hl 1 rfl) ?_
  obtain ⟨r1, σ2, hkr1, hf⟩ := bd_e hf
  refine rc_callV (own := RX7) (av := [.int x1]) (rest := []) (rv := (some (va_rf (Option.map ad r1)))) hx hb hml hown hts hl.1 hV hB 5 (c34 rfl hB) (ceq_5 _ _ _) rfl (cc_X0_lossAt l D ad cy z n σ x1 hkr1) (kwc_X7_106  hts ⟨Nat.le_of_ble_eq_true rfl, Nat.le_of_ble_eq_true rfl⟩) rfl rfl (lv_room (Nat.le_of_ble_eq_true rfl)) dX7_lossOf_5 (Nat.le_refl _) (Nat.le_refl _) (fun H locs hB => ?_)
  refine W.eq (g2 := F0 m 8 ls [va_rf (Option.map ad r1)]) rfl ?_
  rcases r1 with _ | q3
  · have hf := oc_n hf
    refine lv_astore_nN (lv' := [(3, .null), (0, .ref (ad 0)), (1, .int x1), (2, .int x2)]) hx hb dX7_lossOf_8 rfl hl (by decide) rfl (fun ls hl => ?_)
    refine lv_aload_nN hx hb dX7_lossOf_9 rfl (lv_at hl 0 rfl) ?_
    refine lv_ifnonnullN hx hb dX7_lossOf_10 ?_
    refine lv_aload_n hx hb dX7_lossOf_13 rfl (lv_at hl 1 rfl) ?_
    refine lv_iconst (v := (-1)) hx hb dX7_lossOf_14 (by decide) ?_
    obtain ⟨r4, σ5, hkr4, hf⟩ := bd_e hf
    refine rc_callV (own := RX7) (av := [.int (-1)]) (rest := []) (rv := (some (.int r4))) hx hb hml hown hts hl.1 hV hB 0 (c34 rfl hB) (ceq_0 _ _ _) rfl (cc_X7_refuse l D ad cy z n σ2 (-1) hkr4) (kwc_X7_43  hts ⟨Nat.le_of_ble_eq_true rfl, Nat.le_of_ble_eq_true rfl⟩) rfl rfl (lv_room (Nat.le_of_ble_eq_true rfl)) dX7_lossOf_15 (Nat.le_refl _) (Nat.le_refl _) (fun H locs hB => ?_)
    refine W.eq (g2 := F0 m 18 ls [.int r4]) rfl ?_
    obtain ⟨rfl, rfl⟩ := so_e hf
    exact rc_iret hx hb hr hlocks hB dX7_lossOf_18
  · have hf := oc_s hf
    refine lv_astore_n (lv' := [(3, .ref (ad q3)), (0, .ref (ad 0)), (1, .int x1), (2, .int x2)]) hx hb dX7_lossOf_8 rfl hl (by decide) rfl (fun ls hl => ?_)
    refine lv_aload_n hx hb dX7_lossOf_9 rfl (lv_at hl 0 rfl) ?_
    refine lv_ifnonnull (tgt := 19) hx hb dX7_lossOf_10 (by decide) ?_
    refine lv_iload_n hx hb dX7_lossOf_19 rfl (lv_at hl 3 rfl) ?_
    by_cases c8 : x2 = 0
    · have hf := it_t hf c8
      refine lv_tableIn (tgt := 52) hx hb dX7_lossOf_20 (by rw [c8]; decide) (by rw [c8]; decide) (by rw [c8]; rfl) (by decide) ?_
      refine lv_aload_n hx hb dX7_lossOf_52 rfl (lv_at hl 0 rfl) ?_
      obtain ⟨k16, hf⟩ := ck_e hf
      refine rc_get (own := RX7) hx hb hts inC_1 hown hV hB q3 (pk_s k16).2.1 (ceq_L k16) rfl 0 (Nat.le_of_ble_eq_true rfl) qf_X7_110 rfl dX7_lossOf_53 ?_
      obtain ⟨rfl, rfl⟩ := so_e hf
      exact rc_iret hx hb hr hlocks hB dX7_lossOf_56
    · have hf := it_f hf c8
      by_cases c9 : x2 = 1
      · have hf := it_t hf c9
        refine lv_tableIn (tgt := 57) hx hb dX7_lossOf_20 (by rw [c9]; decide) (by rw [c9]; decide) (by rw [c9]; rfl) (by decide) ?_
        refine lv_aload_n hx hb dX7_lossOf_57 rfl (lv_at hl 0 rfl) ?_
        obtain ⟨k15, hf⟩ := ck_e hf
        refine rc_get (own := RX7) hx hb hts inC_1 hown hV hB q3 (pk_s k15).2.1 (ceq_L k15) rfl 1 (Nat.le_of_ble_eq_true rfl) qf_X7_113 rfl dX7_lossOf_58 ?_
        obtain ⟨rfl, rfl⟩ := so_e hf
        exact rc_iret hx hb hr hlocks hB dX7_lossOf_61
      · have hf := it_f hf c9
        by_cases c10 : x2 = 2
        · have hf := it_t hf c10
          refine lv_tableIn (tgt := 62) hx hb dX7_lossOf_20 (by rw [c10]; decide) (by rw [c10]; decide) (by rw [c10]; rfl) (by decide) ?_
          refine lv_aload_n hx hb dX7_lossOf_62 rfl (lv_at hl 0 rfl) ?_
          obtain ⟨k14, hf⟩ := ck_e hf
          refine rc_get (own := RX7) hx hb hts inC_1 hown hV hB q3 (pk_s k14).2.1 (ceq_L k14) rfl 2 (Nat.le_of_ble_eq_true rfl) qf_X7_116 rfl dX7_lossOf_63 ?_
          obtain ⟨rfl, rfl⟩ := so_e hf
          exact rc_iret hx hb hr hlocks hB dX7_lossOf_66
        · have hf := it_f hf c10
          by_cases c11 : x2 = 3
          · have hf := it_t hf c11
            refine lv_tableIn (tgt := 67) hx hb dX7_lossOf_20 (by rw [c11]; decide) (by rw [c11]; decide) (by rw [c11]; rfl) (by decide) ?_
            refine lv_aload_n hx hb dX7_lossOf_67 rfl (lv_at hl 1 rfl) ?_
            refine rc_get (own := RX7) hx hb hts inC_7 hown hV hB 0 (c34 rfl hB) (ceq_0 _ _ _) rfl 2 (Nat.le_of_ble_eq_true rfl) qf_X7_23 rfl dX7_lossOf_68 ?_
            refine rc_get (own := RX7) hx hb hts inC_0 hown hV hB 5 (c34 rfl hB) (ceq_5 _ _ _) rfl 6 (Nat.le_of_ble_eq_true rfl) qf_X7_119 rfl dX7_lossOf_71 ?_
            refine lv_iload_n hx hb dX7_lossOf_74 rfl (lv_at hl 2 rfl) ?_
            obtain ⟨r12, σ13, hkr12, hf⟩ := bd_e hf
            refine rc_callV (own := RX7) (av := [.int x1]) (rest := []) (rv := (some (.int r12))) hx hb hml hown hts hl.1 hV hB 12 (c34 rfl hB) (ceq_12 _ _ _) rfl (cc_X5_tookOf l D ad cy z n σ2 x1 hkr12) (kwc_X7_123  hts ⟨Nat.le_of_ble_eq_true rfl, Nat.le_of_ble_eq_true rfl⟩) rfl rfl (lv_room (Nat.le_of_ble_eq_true rfl)) dX7_lossOf_75 (Nat.le_refl _) (Nat.le_refl _) (fun H locs hB => ?_)
            refine W.eq (g2 := F0 m 78 ls [.int r12]) rfl ?_
            obtain ⟨rfl, rfl⟩ := so_e hf
            exact rc_iret hx hb hr hlocks hB dX7_lossOf_78
          · have hf := it_f hf c11
            refine sw_d (tgt := 79) hx hb dX7_lossOf_20 (by have n_0 := lv_neT c8 (a := 0) (by decide); have n_1 := lv_neT c9 (a := 1) (by decide); have n_2 := lv_neT c10 (a := 2) (by decide); have n_3 := lv_neT c11 (a := 3) (by decide); rcases (show (x2).toInt < 0 ∨ 3 < (x2).toInt by omega) with q | q; exact Or.inl q; exact Or.inr (Or.inl q)) (by decide) ?_
            refine lv_aload_n hx hb dX7_lossOf_79 rfl (lv_at hl 1 rfl) ?_
            refine lv_bipush (v := (-2)) hx hb dX7_lossOf_80 (by decide) ?_
            obtain ⟨r6, σ7, hkr6, hf⟩ := bd_e hf
            refine rc_callV (own := RX7) (av := [.int (-2)]) (rest := []) (rv := (some (.int r6))) hx hb hml hown hts hl.1 hV hB 0 (c34 rfl hB) (ceq_0 _ _ _) rfl (cc_X7_refuse l D ad cy z n σ2 (-2) hkr6) (kwc_X7_43  hts ⟨Nat.le_of_ble_eq_true rfl, Nat.le_of_ble_eq_true rfl⟩) rfl rfl (lv_room (Nat.le_of_ble_eq_true rfl)) dX7_lossOf_82 (Nat.le_refl _) (Nat.le_refl _) (fun H locs hB => ?_)
            refine W.eq (g2 := F0 m 85 ls [.int r6]) rfl ?_
            obtain ⟨rfl, rfl⟩ := so_e hf
            exact rc_iret hx hb hr hlocks hB dX7_lossOf_85
theorem cc_X7_lossOf (l : Launch) (D : va_G) (ad : Nat → Nat) (cy : CY) (z : CZ) (n : Nat) (σ : CS) (x1 : Int32) (x2 : Int32) {r0 : Int32} {σ0 : CS} (hf : fc_X7_lossOf n σ x1 x2 = some (r0, σ0)) : cM l yX7_lossOf wn_X7_lossOf rm_X7_lossOf D ad cy z [.ref (ad 0), .int x1, .int x2] σ (some (.int r0)) σ0 :=
  rc_met (ret := (some .int)) (by decide) rfl (Nat.le_of_ble_eq_true rfl) (fun p e s m below meth c A ls hc hV hB hl => tbc_X7_lossOf_0 hc hV n σ x1 x2 hB hl hf)
/-! X7_isZeroOrOne -/
abbrev rm_X7_isZeroOrOne : Room := { frames := 0, cells := 0, slots := 0, locals := 0 }
abbrev wn_X7_isZeroOrOne : List Cond := .code yX7_isZeroOrOne cX7_isZeroOrOne 1 (some .boolean) :: wsC
def fc_X7_isZeroOrOne (n : Nat) (σ : CS) (x0 : Int32) : Option ((Int32) × CS) := if (x0 = 0) then (some (1, σ)) else (if (x0 = 1) then (some (1, σ)) else (some (0, σ)))
set_option maxRecDepth 100000 in
set_option maxHeartbeats 4000000 in
theorem tbc_X7_isZeroOrOne_0 {p : Program} {l : Launch} {e : Env} {s : State} {m : MethodId} {args : Array Value} {below : List Frame} {meth : Method} {c : Code} {D : va_G} {A : Nat → Prop} {ad : Nat → Nat} {cy : CY} {z : CZ} {r0 : Int32} {σ0 : CS} (hc : cxB RX7 wsC cX7_isZeroOrOne 1 (some .boolean) p s m args meth c) (hV : cV D cy z A s) (n : Nat) (σ : CS) (x0 : Int32) {H : Heap} {locs : List Loc} {ls : Array Slot} (hB : cB D ad cy A s.heap σ H locs) (hl : lv_has ls 1 [(0, .int x0)]) (hf : fc_X7_isZeroOrOne n σ x0 = some (r0, σ0)) : W p l e rm_X7_isZeroOrOne s m args below meth c H locs 0 0 (MQ below (cQ D ad cy A (some (.int r0)) σ0) args s 0 0 A) (F0 m 0 ls []) := by
  obtain ⟨hx, hb, hml, hown, hts, hr, hlocks⟩ := id hc
  unfold fc_X7_isZeroOrOne at hf
  refine lv_iload_n hx hb dX7_isZeroOrOne_0 rfl (lv_at hl 0 rfl) ?_
  refine lv_if_eq (tgt := 9) hx hb dX7_isZeroOrOne_1 (by decide) (fun c1 => ?_) (fun c1 => ?_)
  · have hf := it_t hf c1
    refine lv_iconst (v := 1) hx hb dX7_isZeroOrOne_9 (by decide) ?_
    refine lv_goto (tgt := 14) hx hb dX7_isZeroOrOne_10 (by decide) ?_
    obtain ⟨rfl, rfl⟩ := so_e hf
    exact rc_zret hx hb hr hlocks rfl hB dX7_isZeroOrOne_14
  · have hf := it_f hf c1
    refine lv_iload_n hx hb dX7_isZeroOrOne_4 rfl (lv_at hl 0 rfl) ?_
    refine lv_iconst (v := 1) hx hb dX7_isZeroOrOne_5 (by decide) ?_
    refine lv_icmp_ne (tgt := 13) hx hb dX7_isZeroOrOne_6 (by decide) (fun c2 => ?_) (fun c2 => ?_)
    · have hf := it_f hf c2
      refine lv_iconst (v := 0) hx hb dX7_isZeroOrOne_13 (by decide) ?_
      obtain ⟨rfl, rfl⟩ := so_e hf
      exact rc_zret hx hb hr hlocks rfl hB dX7_isZeroOrOne_14
    · have hf := it_t hf c2
      refine lv_iconst (v := 1) hx hb dX7_isZeroOrOne_9 (by decide) ?_
      refine lv_goto (tgt := 14) hx hb dX7_isZeroOrOne_10 (by decide) ?_
      obtain ⟨rfl, rfl⟩ := so_e hf
      exact rc_zret hx hb hr hlocks rfl hB dX7_isZeroOrOne_14
theorem cc_X7_isZeroOrOne (l : Launch) (D : va_G) (ad : Nat → Nat) (cy : CY) (z : CZ) (n : Nat) (σ : CS) (x0 : Int32) {r0 : Int32} {σ0 : CS} (hf : fc_X7_isZeroOrOne n σ x0 = some (r0, σ0)) : cM l yX7_isZeroOrOne wn_X7_isZeroOrOne rm_X7_isZeroOrOne D ad cy z [.int x0] σ (some (.int r0)) σ0 :=
  rc_met (ret := (some .boolean)) (by decide) rfl (Nat.le_of_ble_eq_true rfl) (fun p e s m below meth c A ls hc hV hB hl => tbc_X7_isZeroOrOne_0 hc hV n σ x0 hB hl hf)
/-! X7_floor -/
theorem kwc_X7_128 {R : Room} {s : State} {args : Array Value} (hts : ∀ w ∈ wsC, w.before args s = true) (hR : rm_X7_isFloor.frames + 1 ≤ R.frames ∧ 8 + (1 + 11) + rm_X7_isFloor.locals ≤ R.locals) : CallB R s args RX7 128 yX7_isFloor cX7_isFloor 1 (some .boolean) wn_X7_isFloor rm_X7_isFloor 0 0 1 ∧ (Cond.static yX7_isFloor).before args s = true := va_cwS 1 hts (gC_s qc_420 qc_84 qc_85 qc_86) rfl rfl rfl (by decide +kernel) hR
theorem kwc_X7_132 {R : Room} {s : State} {args : Array Value} (hts : ∀ w ∈ wsC, w.before args s = true) (hR : rm_X7_isZeroOrOne.frames + 1 ≤ R.frames ∧ 8 + (1 + 11) + rm_X7_isZeroOrOne.locals ≤ R.locals) : CallB R s args RX7 132 yX7_isZeroOrOne cX7_isZeroOrOne 1 (some .boolean) wn_X7_isZeroOrOne rm_X7_isZeroOrOne 0 0 1 ∧ (Cond.static yX7_isZeroOrOne).before args s = true := va_cwS 1 hts (gC_s qc_421 qc_422 qc_85 qc_417) rfl rfl rfl (by decide +kernel) hR
abbrev rm_X7_floor : Room := { frames := 1, cells := 0, slots := 0, locals := 22 }
abbrev wn_X7_floor : List Cond := .code yX7_floor cX7_floor 6 (some .int) :: wsC
def fc_X7_floor (n : Nat) (σ : CS) (x1 : Int32) (x2 : Int32) (x3 : Int32) : Option ((Int32) × CS) := bd (fc_X7_isFloor n σ x1) (fun r1 σ2 => if (r1 = 0) then (bd (fc_X7_refuse n σ2 (-1)) (fun r24 σ25 => some (r24, σ25))) else (bd (fc_X7_isZeroOrOne n σ2 x2) (fun r4 σ5 => if (r4 = 0) then (bd (fc_X7_refuse n σ5 (-2)) (fun r22 σ23 => some (r22, σ23))) else (if (0 ≤ x3) then (if (x3 ≤ 9) then (if (x2 = 0) then (ck (ib x1 4) (sq ((σ5.1 8 (Int32.toNatClampNeg x1)) : Int32) (fun y15 => ck (ib x1 4) (sq (cp σ5 8 (Int32.toNatClampNeg x1) x3) (fun σ17 => some (y15, σ17)))))) else (ck (ib x1 4) (sq ((σ5.1 9 (Int32.toNatClampNeg x1)) : Int32) (fun y11 => ck (ib x1 4) (sq (cp σ5 9 (Int32.toNatClampNeg x1) x3) (fun σ13 => some (y11, σ13))))))) else (bd (fc_X7_refuse n σ5 (-6)) (fun r18 σ19 => some (r18, σ19)))) else (bd (fc_X7_refuse n σ5 (-4)) (fun r20 σ21 => some (r20, σ21)))))))
set_option maxRecDepth 100000 in
set_option maxHeartbeats 4000000 in
theorem tbc_X7_floor_0 {p : Program} {l : Launch} {e : Env} {s : State} {m : MethodId} {args : Array Value} {below : List Frame} {meth : Method} {c : Code} {D : va_G} {A : Nat → Prop} {ad : Nat → Nat} {cy : CY} {z : CZ} {r0 : Int32} {σ0 : CS} (hc : cxB RX7 wsC cX7_floor 6 (some .int) p s m args meth c) (hV : cV D cy z A s) (n : Nat) (σ : CS) (x1 : Int32) (x2 : Int32) (x3 : Int32) {H : Heap} {locs : List Loc} {ls : Array Slot} (hB : cB D ad cy A s.heap σ H locs) (hl : lv_has ls 6 [(0, .ref (ad 0)), (1, .int x1), (2, .int x2), (3, .int x3)]) (hf : fc_X7_floor n σ x1 x2 x3 = some (r0, σ0)) : W p l e rm_X7_floor s m args below meth c H locs 0 0 (MQ below (cQ D ad cy A (some (.int r0)) σ0) args s 0 0 A) (F0 m 0 ls []) := by
  obtain ⟨hx, hb, hml, hown, hts, hr, hlocks⟩ := id hc
  unfold fc_X7_floor at hf
  refine lv_iload_n hx hb dX7_floor_0 rfl (lv_at hl 1 rfl) ?_
  obtain ⟨r1, σ2, hkr1, hf⟩ := bd_e hf
  refine rc_callS (own := RX7) (av := [.int x1]) (rest := []) (rv := (some (.int r1))) hx hb hml hown hts hl.1 hV hB (cc_X7_isFloor l D ad cy z n σ x1 hkr1) (kwc_X7_128  hts ⟨Nat.le_of_ble_eq_true rfl, Nat.le_of_ble_eq_true rfl⟩) rfl rfl (lv_room (Nat.le_of_ble_eq_true rfl)) dX7_floor_1 (Nat.le_refl _) (Nat.le_refl _) (fun H locs hB => ?_)
  refine W.eq (g2 := F0 m 4 ls [.int r1]) rfl ?_
  refine lv_if_ne (tgt := 13) hx hb dX7_floor_4 (by decide) (fun c3 => ?_) (fun c3 => ?_)
  · have hf := it_f hf c3
    refine lv_iload_n hx hb dX7_floor_13 rfl (lv_at hl 2 rfl) ?_
    obtain ⟨r4, σ5, hkr4, hf⟩ := bd_e hf
    refine rc_callS (own := RX7) (av := [.int x2]) (rest := []) (rv := (some (.int r4))) hx hb hml hown hts hl.1 hV hB (cc_X7_isZeroOrOne l D ad cy z n σ2 x2 hkr4) (kwc_X7_132  hts ⟨Nat.le_of_ble_eq_true rfl, Nat.le_of_ble_eq_true rfl⟩) rfl rfl (lv_room (Nat.le_of_ble_eq_true rfl)) dX7_floor_14 (Nat.le_refl _) (Nat.le_refl _) (fun H locs hB => ?_)
    refine W.eq (g2 := F0 m 17 ls [.int r4]) rfl ?_
    refine lv_if_ne (tgt := 27) hx hb dX7_floor_17 (by decide) (fun c6 => ?_) (fun c6 => ?_)
    · have hf := it_f hf c6
      refine lv_iload_n hx hb dX7_floor_27 rfl (lv_at hl 3 rfl) ?_
      refine lv_if_ge (tgt := 38) hx hb dX7_floor_28 (by decide) (fun c7 => ?_) (fun c7 => ?_)
      · have hf := it_t hf c7
        refine lv_iload_n hx hb dX7_floor_38 rfl (lv_at hl 3 rfl) ?_
        refine lv_bipush (v := 9) hx hb dX7_floor_39 (by decide) ?_
        refine lv_icmp_le (tgt := 51) hx hb dX7_floor_41 (by decide) (fun c8 => ?_) (fun c8 => ?_)
        · have hf := it_t hf c8
          refine lv_iload_n hx hb dX7_floor_51 rfl (lv_at hl 2 rfl) ?_
          refine lv_if_ne (tgt := 65) hx hb dX7_floor_52 (by decide) (fun c9 => ?_) (fun c9 => ?_)
          · have hf := it_f hf c9
            refine lv_aload_n hx hb dX7_floor_65 rfl (lv_at hl 0 rfl) ?_
            refine rc_get (own := RX7) hx hb hts inC_7 hown hV hB 0 (c34 rfl hB) (ceq_0 _ _ _) rfl 2 (Nat.le_of_ble_eq_true rfl) qf_X7_23 rfl dX7_floor_66 ?_
            refine rc_get (own := RX7) hx hb hts inC_0 hown hV hB 5 (c34 rfl hB) (ceq_5 _ _ _) rfl 3 (Nat.le_of_ble_eq_true rfl) qf_X7_138 rfl dX7_floor_69 ?_
            refine lv_astore (lv' := [(4, .ref (ad 9)), (0, .ref (ad 0)), (1, .int x1), (2, .int x2), (3, .int x3)]) hx hb dX7_floor_72 hl (by decide) rfl (fun ls hl => ?_)
            refine lv_aload hx hb dX7_floor_74 (lv_at hl 0 rfl) ?_
            refine lv_iload_n hx hb dX7_floor_76 rfl (lv_at hl 2 rfl) ?_
            obtain ⟨k10, hf⟩ := ck_e hf
            refine rc_ald hx hb hV hB 9 (c34 rfl hB) (ceq_9 _ _ _) k10 dX7_floor_77 ?_
            refine lv_topi (fun y11 ey11 => ?_)
            have hf := sq_e hf y11 ey11
            refine lv_istore (lv' := [(5, .int y11), (4, .ref (ad 9)), (0, .ref (ad 0)), (1, .int x1), (2, .int x2), (3, .int x3)]) hx hb dX7_floor_78 hl (by decide) rfl (fun ls hl => ?_)
            refine lv_aload hx hb dX7_floor_80 (lv_at hl 1 rfl) ?_
            refine lv_iload_n hx hb dX7_floor_82 rfl (lv_at hl 3 rfl) ?_
            refine lv_iload_n hx hb dX7_floor_83 rfl (lv_at hl 5 rfl) ?_
            obtain ⟨k12, hf⟩ := ck_e hf
            refine rc_ast hx hb hV hB 9 (c34 rfl hB) (ceq_9 _ _ _) (fun _ => rfl) k12 dX7_floor_84 (fun σ13 eσ13 H locs hB => ?_)
            have hf := sq_e hf σ13 eσ13
            refine lv_iload hx hb dX7_floor_85 (lv_at hl 0 rfl) ?_
            obtain ⟨rfl, rfl⟩ := so_e hf
            exact rc_iret hx hb hr hlocks hB dX7_floor_87
          · have hf := it_t hf c9
            refine lv_aload_n hx hb dX7_floor_55 rfl (lv_at hl 0 rfl) ?_
            refine rc_get (own := RX7) hx hb hts inC_7 hown hV hB 0 (c34 rfl hB) (ceq_0 _ _ _) rfl 2 (Nat.le_of_ble_eq_true rfl) qf_X7_23 rfl dX7_floor_56 ?_
            refine rc_get (own := RX7) hx hb hts inC_0 hown hV hB 5 (c34 rfl hB) (ceq_5 _ _ _) rfl 2 (Nat.le_of_ble_eq_true rfl) qf_X7_135 rfl dX7_floor_59 ?_
            refine lv_goto (tgt := 72) hx hb dX7_floor_62 (by decide) ?_
            refine lv_astore (lv' := [(4, .ref (ad 8)), (0, .ref (ad 0)), (1, .int x1), (2, .int x2), (3, .int x3)]) hx hb dX7_floor_72 hl (by decide) rfl (fun ls hl => ?_)
            refine lv_aload hx hb dX7_floor_74 (lv_at hl 0 rfl) ?_
            refine lv_iload_n hx hb dX7_floor_76 rfl (lv_at hl 2 rfl) ?_
            obtain ⟨k14, hf⟩ := ck_e hf
            refine rc_ald hx hb hV hB 8 (c34 rfl hB) (ceq_8 _ _ _) k14 dX7_floor_77 ?_
            refine lv_topi (fun y15 ey15 => ?_)
            have hf := sq_e hf y15 ey15
            refine lv_istore (lv' := [(5, .int y15), (4, .ref (ad 8)), (0, .ref (ad 0)), (1, .int x1), (2, .int x2), (3, .int x3)]) hx hb dX7_floor_78 hl (by decide) rfl (fun ls hl => ?_)
            refine lv_aload hx hb dX7_floor_80 (lv_at hl 1 rfl) ?_
            refine lv_iload_n hx hb dX7_floor_82 rfl (lv_at hl 3 rfl) ?_
            refine lv_iload_n hx hb dX7_floor_83 rfl (lv_at hl 5 rfl) ?_
            obtain ⟨k16, hf⟩ := ck_e hf
            refine rc_ast hx hb hV hB 8 (c34 rfl hB) (ceq_8 _ _ _) (fun _ => rfl) k16 dX7_floor_84 (fun σ17 eσ17 H locs hB => ?_)
            have hf := sq_e hf σ17 eσ17
            refine lv_iload hx hb dX7_floor_85 (lv_at hl 0 rfl) ?_
            obtain ⟨rfl, rfl⟩ := so_e hf
            exact rc_iret hx hb hr hlocks hB dX7_floor_87
        · have hf := it_f hf c8
          refine lv_aload_n hx hb dX7_floor_44 rfl (lv_at hl 0 rfl) ?_
          refine lv_bipush (v := (-6)) hx hb dX7_floor_45 (by decide) ?_
          obtain ⟨r18, σ19, hkr18, hf⟩ := bd_e hf
          refine rc_callV (own := RX7) (av := [.int (-6)]) (rest := []) (rv := (some (.int r18))) hx hb hml hown hts hl.1 hV hB 0 (c34 rfl hB) (ceq_0 _ _ _) rfl (cc_X7_refuse l D ad cy z n σ5 (-6) hkr18) (kwc_X7_43  hts ⟨Nat.le_of_ble_eq_true rfl, Nat.le_of_ble_eq_true rfl⟩) rfl rfl (lv_room (Nat.le_of_ble_eq_true rfl)) dX7_floor_47 (Nat.le_refl _) (Nat.le_refl _) (fun H locs hB => ?_)
          refine W.eq (g2 := F0 m 50 ls [.int r18]) rfl ?_
          obtain ⟨rfl, rfl⟩ := so_e hf
          exact rc_iret hx hb hr hlocks hB dX7_floor_50
      · have hf := it_f hf c7
        refine lv_aload_n hx hb dX7_floor_31 rfl (lv_at hl 0 rfl) ?_
        refine lv_bipush (v := (-4)) hx hb dX7_floor_32 (by decide) ?_
        obtain ⟨r20, σ21, hkr20, hf⟩ := bd_e hf
        refine rc_callV (own := RX7) (av := [.int (-4)]) (rest := []) (rv := (some (.int r20))) hx hb hml hown hts hl.1 hV hB 0 (c34 rfl hB) (ceq_0 _ _ _) rfl (cc_X7_refuse l D ad cy z n σ5 (-4) hkr20) (kwc_X7_43  hts ⟨Nat.le_of_ble_eq_true rfl, Nat.le_of_ble_eq_true rfl⟩) rfl rfl (lv_room (Nat.le_of_ble_eq_true rfl)) dX7_floor_34 (Nat.le_refl _) (Nat.le_refl _) (fun H locs hB => ?_)
        refine W.eq (g2 := F0 m 37 ls [.int r20]) rfl ?_
        obtain ⟨rfl, rfl⟩ := so_e hf
        exact rc_iret hx hb hr hlocks hB dX7_floor_37
    · have hf := it_t hf c6
      refine lv_aload_n hx hb dX7_floor_20 rfl (lv_at hl 0 rfl) ?_
      refine lv_bipush (v := (-2)) hx hb dX7_floor_21 (by decide) ?_
      obtain ⟨r22, σ23, hkr22, hf⟩ := bd_e hf
      refine rc_callV (own := RX7) (av := [.int (-2)]) (rest := []) (rv := (some (.int r22))) hx hb hml hown hts hl.1 hV hB 0 (c34 rfl hB) (ceq_0 _ _ _) rfl (cc_X7_refuse l D ad cy z n σ5 (-2) hkr22) (kwc_X7_43  hts ⟨Nat.le_of_ble_eq_true rfl, Nat.le_of_ble_eq_true rfl⟩) rfl rfl (lv_room (Nat.le_of_ble_eq_true rfl)) dX7_floor_23 (Nat.le_refl _) (Nat.le_refl _) (fun H locs hB => ?_)
      refine W.eq (g2 := F0 m 26 ls [.int r22]) rfl ?_
      obtain ⟨rfl, rfl⟩ := so_e hf
      exact rc_iret hx hb hr hlocks hB dX7_floor_26
  · have hf := it_t hf c3
    refine lv_aload_n hx hb dX7_floor_7 rfl (lv_at hl 0 rfl) ?_
    refine lv_iconst (v := (-1)) hx hb dX7_floor_8 (by decide) ?_
    obtain ⟨r24, σ25, hkr24, hf⟩ := bd_e hf
    refine rc_callV (own := RX7) (av := [.int (-1)]) (rest := []) (rv := (some (.int r24))) hx hb hml hown hts hl.1 hV hB 0 (c34 rfl hB) (ceq_0 _ _ _) rfl (cc_X7_refuse l D ad cy z n σ2 (-1) hkr24) (kwc_X7_43  hts ⟨Nat.le_of_ble_eq_true rfl, Nat.le_of_ble_eq_true rfl⟩) rfl rfl (lv_room (Nat.le_of_ble_eq_true rfl)) dX7_floor_9 (Nat.le_refl _) (Nat.le_refl _) (fun H locs hB => ?_)
    refine W.eq (g2 := F0 m 12 ls [.int r24]) rfl ?_
    obtain ⟨rfl, rfl⟩ := so_e hf
    exact rc_iret hx hb hr hlocks hB dX7_floor_12
theorem cc_X7_floor (l : Launch) (D : va_G) (ad : Nat → Nat) (cy : CY) (z : CZ) (n : Nat) (σ : CS) (x1 : Int32) (x2 : Int32) (x3 : Int32) {r0 : Int32} {σ0 : CS} (hf : fc_X7_floor n σ x1 x2 x3 = some (r0, σ0)) : cM l yX7_floor wn_X7_floor rm_X7_floor D ad cy z [.ref (ad 0), .int x1, .int x2, .int x3] σ (some (.int r0)) σ0 :=
  rc_met (ret := (some .int)) (by decide) rfl (Nat.le_of_ble_eq_true rfl) (fun p e s m below meth c A ls hc hV hB hl => tbc_X7_floor_0 hc hV n σ x1 x2 x3 hB hl hf)
/-! X7_air -/
abbrev rm_X7_air : Room := { frames := 0, cells := 0, slots := 0, locals := 0 }
abbrev wn_X7_air : List Cond := .code yX7_air cX7_air 3 (some .int) :: wsC
def bc_X7_air_16 (n : Nat) (σ : CS) (x1 : Int32) (t0 : Int32) : Option ((Int32) × CS) := ck (zb x1) (sq (cp σ 5 11 x1) (fun σ1 => some (t0, σ1)))
set_option maxRecDepth 100000 in
set_option maxHeartbeats 4000000 in
theorem tbc_X7_air_16 {p : Program} {l : Launch} {e : Env} {s : State} {m : MethodId} {args : Array Value} {below : List Frame} {meth : Method} {c : Code} {D : va_G} {A : Nat → Prop} {ad : Nat → Nat} {cy : CY} {z : CZ} {r0 : Int32} {σ0 : CS} (hc : cxB RX7 wsC cX7_air 3 (some .int) p s m args meth c) (hV : cV D cy z A s) (n : Nat) (σ : CS) (x1 : Int32) (t0 : Int32) {H : Heap} {locs : List Loc} {ls : Array Slot} (hB : cB D ad cy A s.heap σ H locs) (hl : lv_has ls 3 [(0, .ref (ad 0)), (1, .int x1)]) (hf : bc_X7_air_16 n σ x1 t0 = some (r0, σ0)) : W p l e rm_X7_air s m args below meth c H locs 0 0 (MQ below (cQ D ad cy A (some (.int r0)) σ0) args s 0 0 A) (F0 m 16 ls [.int t0]) := by
  obtain ⟨hx, hb, hml, hown, hts, hr, hlocks⟩ := id hc
  unfold bc_X7_air_16 at hf
  refine lv_istore_n (lv' := [(2, .int t0), (0, .ref (ad 0)), (1, .int x1)]) hx hb dX7_air_16 rfl hl (by decide) rfl (fun ls hl => ?_)
  refine lv_aload_n hx hb dX7_air_17 rfl (lv_at hl 1 rfl) ?_
  refine rc_get (own := RX7) hx hb hts inC_7 hown hV hB 0 (c34 rfl hB) (ceq_0 _ _ _) rfl 2 (Nat.le_of_ble_eq_true rfl) qf_X7_23 rfl dX7_air_18 ?_
  refine lv_iload_n hx hb dX7_air_21 rfl (lv_at hl 2 rfl) ?_
  obtain ⟨k2, hf⟩ := ck_e hf
  refine rc_puti (own := RX7) (ty := .boolean) hx hb hts inC_0 hown hV hB 5 (c34 rfl hB) (ceq_5 _ _ _) rfl 11 (Nat.le_of_ble_eq_true rfl) qf_X7_141 tyX0 tyX0_ok nmX0 (cst_5_11 _ _ _ _) rfl pdc_0_11 (zb_n k2) (zb_f k2) (Nat.le_of_ble_eq_true rfl) dX7_air_22 (fun σ1 eσ1 H locs hB => ?_)
  have hf := sq_e hf σ1 eσ1
  refine lv_iload_n hx hb dX7_air_25 rfl (lv_at hl 0 rfl) ?_
  obtain ⟨rfl, rfl⟩ := so_e hf
  exact rc_iret hx hb hr hlocks hB dX7_air_26
def fc_X7_air (n : Nat) (σ : CS) (x1 : Int32) : Option ((Int32) × CS) := if ((σ.1 5 11) = x1) then (bc_X7_air_16 n σ x1 0) else (bc_X7_air_16 n σ x1 1)
set_option maxRecDepth 100000 in
set_option maxHeartbeats 4000000 in
theorem tbc_X7_air_0 {p : Program} {l : Launch} {e : Env} {s : State} {m : MethodId} {args : Array Value} {below : List Frame} {meth : Method} {c : Code} {D : va_G} {A : Nat → Prop} {ad : Nat → Nat} {cy : CY} {z : CZ} {r0 : Int32} {σ0 : CS} (hc : cxB RX7 wsC cX7_air 3 (some .int) p s m args meth c) (hV : cV D cy z A s) (n : Nat) (σ : CS) (x1 : Int32) {H : Heap} {locs : List Loc} {ls : Array Slot} (hB : cB D ad cy A s.heap σ H locs) (hl : lv_has ls 3 [(0, .ref (ad 0)), (1, .int x1)]) (hf : fc_X7_air n σ x1 = some (r0, σ0)) : W p l e rm_X7_air s m args below meth c H locs 0 0 (MQ below (cQ D ad cy A (some (.int r0)) σ0) args s 0 0 A) (F0 m 0 ls []) := by
  obtain ⟨hx, hb, hml, hown, hts, hr, hlocks⟩ := id hc
  unfold fc_X7_air at hf
  refine lv_aload_n hx hb dX7_air_0 rfl (lv_at hl 0 rfl) ?_
  refine rc_get (own := RX7) hx hb hts inC_7 hown hV hB 0 (c34 rfl hB) (ceq_0 _ _ _) rfl 2 (Nat.le_of_ble_eq_true rfl) qf_X7_23 rfl dX7_air_1 ?_
  refine rc_get (own := RX7) hx hb hts inC_0 hown hV hB 5 (c34 rfl hB) (ceq_5 _ _ _) rfl 11 (Nat.le_of_ble_eq_true rfl) qf_X7_141 rfl dX7_air_4 ?_
  refine lv_iload_n hx hb dX7_air_7 rfl (lv_at hl 1 rfl) ?_
  refine lv_icmp_ne (tgt := 15) hx hb dX7_air_8 (by decide) (fun c1 => ?_) (fun c1 => ?_)
  · have hf := it_f hf c1
    refine lv_iconst (v := 1) hx hb dX7_air_15 (by decide) ?_
    exact tbc_X7_air_16 hc hV n σ x1 1 hB (lv_sub hl [0, 1] rfl) hf
  · have hf := it_t hf c1
    refine lv_iconst (v := 0) hx hb dX7_air_11 (by decide) ?_
    refine lv_goto (tgt := 16) hx hb dX7_air_12 (by decide) ?_
    exact tbc_X7_air_16 hc hV n σ x1 0 hB (lv_sub hl [0, 1] rfl) hf
theorem cc_X7_air (l : Launch) (D : va_G) (ad : Nat → Nat) (cy : CY) (z : CZ) (n : Nat) (σ : CS) (x1 : Int32) {r0 : Int32} {σ0 : CS} (hf : fc_X7_air n σ x1 = some (r0, σ0)) : cM l yX7_air wn_X7_air rm_X7_air D ad cy z [.ref (ad 0), .int x1] σ (some (.int r0)) σ0 :=
  rc_met (ret := (some .int)) (by decide) rfl (Nat.le_of_ble_eq_true rfl) (fun p e s m below meth c A ls hc hV hB hl => tbc_X7_air_0 hc hV n σ x1 hB hl hf)
/-! X7_leanRefusal -/
abbrev rm_X7_leanRefusal : Room := { frames := 0, cells := 0, slots := 0, locals := 0 }
abbrev wn_X7_leanRefusal : List Cond := .code yX7_leanRefusal cX7_leanRefusal 1 (some .int) :: wsC
def fc_X7_leanRefusal (n : Nat) (σ : CS) (x0 : Int32) : Option ((Int32) × CS) := if (0 ≤ x0) then (if (x0 ≤ 9000) then (some (0, σ)) else (some ((-6), σ))) else (some ((-4), σ))
set_option maxRecDepth 100000 in
set_option maxHeartbeats 4000000 in
theorem tbc_X7_leanRefusal_0 {p : Program} {l : Launch} {e : Env} {s : State} {m : MethodId} {args : Array Value} {below : List Frame} {meth : Method} {c : Code} {D : va_G} {A : Nat → Prop} {ad : Nat → Nat} {cy : CY} {z : CZ} {r0 : Int32} {σ0 : CS} (hc : cxB RX7 wsC cX7_leanRefusal 1 (some .int) p s m args meth c) (hV : cV D cy z A s) (n : Nat) (σ : CS) (x0 : Int32) {H : Heap} {locs : List Loc} {ls : Array Slot} (hB : cB D ad cy A s.heap σ H locs) (hl : lv_has ls 1 [(0, .int x0)]) (hf : fc_X7_leanRefusal n σ x0 = some (r0, σ0)) : W p l e rm_X7_leanRefusal s m args below meth c H locs 0 0 (MQ below (cQ D ad cy A (some (.int r0)) σ0) args s 0 0 A) (F0 m 0 ls []) := by
  obtain ⟨hx, hb, hml, hown, hts, hr, hlocks⟩ := id hc
  unfold fc_X7_leanRefusal at hf
  refine lv_iload_n hx hb dX7_leanRefusal_0 rfl (lv_at hl 0 rfl) ?_
  refine lv_if_ge (tgt := 7) hx hb dX7_leanRefusal_1 (by decide) (fun c1 => ?_) (fun c1 => ?_)
  · have hf := it_t hf c1
    refine lv_iload_n hx hb dX7_leanRefusal_7 rfl (lv_at hl 0 rfl) ?_
    refine lv_sipush (v := 9000) hx hb dX7_leanRefusal_8 (by decide) ?_
    refine lv_icmp_le (tgt := 19) hx hb dX7_leanRefusal_11 (by decide) (fun c2 => ?_) (fun c2 => ?_)
    · have hf := it_t hf c2
      refine lv_iconst (v := 0) hx hb dX7_leanRefusal_19 (by decide) ?_
      obtain ⟨rfl, rfl⟩ := so_e hf
      exact rc_iret hx hb hr hlocks hB dX7_leanRefusal_20
    · have hf := it_f hf c2
      refine lv_bipush (v := (-6)) hx hb dX7_leanRefusal_14 (by decide) ?_
      refine lv_goto (tgt := 20) hx hb dX7_leanRefusal_16 (by decide) ?_
      obtain ⟨rfl, rfl⟩ := so_e hf
      exact rc_iret hx hb hr hlocks hB dX7_leanRefusal_20
  · have hf := it_f hf c1
    refine lv_bipush (v := (-4)) hx hb dX7_leanRefusal_4 (by decide) ?_
    obtain ⟨rfl, rfl⟩ := so_e hf
    exact rc_iret hx hb hr hlocks hB dX7_leanRefusal_6
theorem cc_X7_leanRefusal (l : Launch) (D : va_G) (ad : Nat → Nat) (cy : CY) (z : CZ) (n : Nat) (σ : CS) (x0 : Int32) {r0 : Int32} {σ0 : CS} (hf : fc_X7_leanRefusal n σ x0 = some (r0, σ0)) : cM l yX7_leanRefusal wn_X7_leanRefusal rm_X7_leanRefusal D ad cy z [.int x0] σ (some (.int r0)) σ0 :=
  rc_met (ret := (some .int)) (by decide) rfl (Nat.le_of_ble_eq_true rfl) (fun p e s m below meth c A ls hc hV hB hl => tbc_X7_leanRefusal_0 hc hV n σ x0 hB hl hf)
