/-! X7_isSet -/
abbrev rm_X7_isSet : Room := { frames := 0, cells := 0, slots := 0, locals := 0 }
abbrev wn_X7_isSet : List Cond := .code yX7_isSet cX7_isSet 2 (some .boolean) :: wsC
def fc_X7_isSet (n : Nat) (σ : CS) (x1 : Int32) : Option ((Int32) × CS) := if (x1 < 0) then (some (0, σ)) else (if ((1 <<< ((σ.1 5 9) &&& 31)) ≤ x1) then (some (0, σ)) else (some (1, σ)))
set_option maxRecDepth 100000 in
set_option maxHeartbeats 4000000 in
theorem tbc_X7_isSet_0 {p : Program} {l : Launch} {e : Env} {s : State} {m : MethodId} {args : Array Value} {below : List Frame} {meth : Method} {c : Code} {D : va_G} {A : Nat → Prop} {ad : Nat → Nat} {cy : CY} {z : CZ} {r0 : Int32} {σ0 : CS} (hc : cxB RX7 wsC cX7_isSet 2 (some .boolean) p s m args meth c) (hV : cV D cy z A s) (n : Nat) (σ : CS) (x1 : Int32) {H : Heap} {locs : List Loc} {ls : Array Slot} (hB : cB D ad cy A s.heap σ H locs) (hl : lv_has ls 2 [(0, .ref (ad 0)), (1, .int x1)]) (hf : fc_X7_isSet n σ x1 = some (r0, σ0)) : W p l e rm_X7_isSet s m args below meth c H locs 0 0 (MQ below (cQ D ad cy A (some (.int r0)) σ0) args s 0 0 A) (F0 m 0 ls []) := by
  obtain ⟨hx, hb, hml, hown, hts, hr, hlocks⟩ := id hc
  unfold fc_X7_isSet at hf
  refine lv_iload_n hx hb dX7_isSet_0 rfl (lv_at hl 1 rfl) ?_
  refine lv_if_lt (tgt := 21) hx hb dX7_isSet_1 (by decide) (fun c1 => ?_) (fun c1 => ?_)
  · have hf := it_t hf c1
    refine lv_iconst (v := 0) hx hb dX7_isSet_21 (by decide) ?_
    obtain ⟨rfl, rfl⟩ := so_e hf
    exact rc_zret hx hb hr hlocks rfl hB dX7_isSet_22
  · have hf := it_f hf c1
    refine lv_iload_n hx hb dX7_isSet_4 rfl (lv_at hl 1 rfl) ?_
    refine lv_iconst (v := 1) hx hb dX7_isSet_5 (by decide) ?_
    refine lv_aload_n hx hb dX7_isSet_6 rfl (lv_at hl 0 rfl) ?_
    refine rc_get (own := RX7) hx hb hts inC_7 hown hV hB 0 (c34 rfl hB) (ceq_0 _ _ _) rfl 2 (Nat.le_of_ble_eq_true rfl) qf_X7_23 rfl dX7_isSet_7 ?_
    refine rc_get (own := RX7) hx hb hts inC_0 hown hV hB 5 (c34 rfl hB) (ceq_5 _ _ _) rfl 9 (Nat.le_of_ble_eq_true rfl) qf_X7_90 rfl dX7_isSet_10 ?_
    refine lv_ishl hx hb dX7_isSet_13 ?_
    refine lv_icmp_ge (tgt := 21) hx hb dX7_isSet_14 (by decide) (fun c2 => ?_) (fun c2 => ?_)
    · have hf := it_t hf c2
      refine lv_iconst (v := 0) hx hb dX7_isSet_21 (by decide) ?_
      obtain ⟨rfl, rfl⟩ := so_e hf
      exact rc_zret hx hb hr hlocks rfl hB dX7_isSet_22
    · have hf := it_f hf c2
      refine lv_iconst (v := 1) hx hb dX7_isSet_17 (by decide) ?_
      refine lv_goto (tgt := 22) hx hb dX7_isSet_18 (by decide) ?_
      obtain ⟨rfl, rfl⟩ := so_e hf
      exact rc_zret hx hb hr hlocks rfl hB dX7_isSet_22
theorem cc_X7_isSet (l : Launch) (D : va_G) (ad : Nat → Nat) (cy : CY) (z : CZ) (n : Nat) (σ : CS) (x1 : Int32) {r0 : Int32} {σ0 : CS} (hf : fc_X7_isSet n σ x1 = some (r0, σ0)) : cM l yX7_isSet wn_X7_isSet rm_X7_isSet D ad cy z [.ref (ad 0), .int x1] σ (some (.int r0)) σ0 :=
  rc_met (ret := (some .boolean)) (by decide) rfl (Nat.le_of_ble_eq_true rfl) (fun p e s m below meth c A ls hc hV hB hl => tbc_X7_isSet_0 hc hV n σ x1 hB hl hf)
/-! X7_firstMisfit -/
theorem kwc_X7_313 {R : Room} {s : State} {args : Array Value} (hts : ∀ w ∈ wsC, w.before args s = true) (hR : rm_X4_isHeard.frames + 1 ≤ R.frames ∧ 8 + (2 + 11) + rm_X4_isHeard.locals ≤ R.locals) : CallW R s args RX7 RX4 313 yX4_isHeard cX4_isHeard 2 (some .boolean) wn_X4_isHeard rm_X4_isHeard 0 0 1 := cwV 1 hts (gC_v qc_481 qc_160 qc_161 qc_18 qc_157) rfl rfl rfl (by decide +kernel) hR
theorem kwc_X7_316 {R : Room} {s : State} {args : Array Value} (hts : ∀ w ∈ wsC, w.before args s = true) (hR : rm_X2_offAt.frames + 1 ≤ R.frames ∧ 8 + (3 + 11) + rm_X2_offAt.locals ≤ R.locals) : CallW R s args RX7 RX2 316 yX2_offAt cX2_offAt 3 (some .int) wn_X2_offAt rm_X2_offAt 0 0 1 := cwV 1 hts (gC_v qc_482 qc_483 qc_484 qc_108 qc_485) rfl rfl rfl (by decide +kernel) hR
abbrev rm_X7_firstMisfit : Room := { frames := 6, cells := 0, slots := 0, locals := 177 }
abbrev wn_X7_firstMisfit : List Cond := .code yX7_firstMisfit cX7_firstMisfit 3 (some .int) :: wsC
def bc_X7_firstMisfit_10 (n : Nat) (K10 : CS → Int32 → Option ((Int32) × CS)) (σ : CS) (x2 : Int32) : Option ((Int32) × CS) := if ((σ.1 16 1) ≤ x2) then (some ((-9), σ)) else (bd (fc_X4_isHeard n σ x2) (fun r2 σ3 => if (r2 = 0) then (sq (x2 + 1 : Int32) (fun y5 => K10 σ3 y5)) else (bd (fc_X2_offAt n σ3 x2) (fun r6 σ7 => if (r6 ≤ (σ7.1 16 2)) then (sq (x2 + 1 : Int32) (fun y9 => K10 σ7 y9)) else (some (x2, σ7))))))
set_option maxRecDepth 100000 in
set_option maxHeartbeats 4000000 in
theorem tbc_X7_firstMisfit_10 {p : Program} {l : Launch} {e : Env} {s : State} {m : MethodId} {args : Array Value} {below : List Frame} {meth : Method} {c : Code} {D : va_G} {A : Nat → Prop} {ad : Nat → Nat} {cy : CY} {z : CZ} {r0 : Int32} {σ0 : CS} (hc : cxB RX7 wsC cX7_firstMisfit 3 (some .int) p s m args meth c) (hV : cV D cy z A s) (n : Nat) (K10 : CS → Int32 → Option ((Int32) × CS)) (hK10 : ∀ (σ : CS) (x2 : Int32) (H : Heap) (locs : List Loc) (ls : Array Slot), cB D ad cy A s.heap σ H locs → lv_has ls 3 [(0, .ref (ad 0)), (1, .ref (ad 16)), (2, .int x2)] → K10 σ x2 = some (r0, σ0) → W p l e rm_X7_firstMisfit s m args below meth c H locs 0 0 (MQ below (cQ D ad cy A (some (.int r0)) σ0) args s 0 0 A) (F0 m 10 ls [])) (σ : CS) (x2 : Int32) {H : Heap} {locs : List Loc} {ls : Array Slot} (hB : cB D ad cy A s.heap σ H locs) (hl : lv_has ls 3 [(0, .ref (ad 0)), (1, .ref (ad 16)), (2, .int x2)]) (hf : bc_X7_firstMisfit_10 n K10 σ x2 = some (r0, σ0)) : W p l e rm_X7_firstMisfit s m args below meth c H locs 0 0 (MQ below (cQ D ad cy A (some (.int r0)) σ0) args s 0 0 A) (F0 m 10 ls []) := by
  obtain ⟨hx, hb, hml, hown, hts, hr, hlocks⟩ := id hc
  unfold bc_X7_firstMisfit_10 at hf
  refine lv_iload_n hx hb dX7_firstMisfit_10 rfl (lv_at hl 2 rfl) ?_
  refine lv_aload_n hx hb dX7_firstMisfit_11 rfl (lv_at hl 1 rfl) ?_
  refine rc_get (own := RX7) hx hb hts inC_4 hown hV hB 16 (c34 rfl hB) (ceq_16 _ _ _) rfl 1 (Nat.le_of_ble_eq_true rfl) qf_X7_223 rfl dX7_firstMisfit_12 ?_
  refine lv_icmp_ge (tgt := 49) hx hb dX7_firstMisfit_15 (by decide) (fun c1 => ?_) (fun c1 => ?_)
  · have hf := it_t hf c1
    refine lv_bipush (v := (-9)) hx hb dX7_firstMisfit_49 (by decide) ?_
    obtain ⟨rfl, rfl⟩ := so_e hf
    exact rc_iret hx hb hr hlocks hB dX7_firstMisfit_51
  · have hf := it_f hf c1
    refine lv_aload_n hx hb dX7_firstMisfit_18 rfl (lv_at hl 1 rfl) ?_
    refine lv_iload_n hx hb dX7_firstMisfit_19 rfl (lv_at hl 2 rfl) ?_
    obtain ⟨r2, σ3, hkr2, hf⟩ := bd_e hf
    refine rc_callV (own := RX7) (av := [.int x2]) (rest := []) (rv := (some (.int r2))) hx hb hml hown hts hl.1 hV hB 16 (c34 rfl hB) (ceq_16 _ _ _) rfl (cc_X4_isHeard l D ad cy z n σ x2 hkr2) (kwc_X7_313  hts ⟨Nat.le_of_ble_eq_true rfl, Nat.le_of_ble_eq_true rfl⟩) rfl rfl (lv_room (Nat.le_of_ble_eq_true rfl)) dX7_firstMisfit_20 (Nat.le_refl _) (Nat.le_refl _) (fun H locs hB => ?_)
    refine W.eq (g2 := F0 m 23 ls [.int r2]) rfl ?_
    refine lv_if_eq (tgt := 43) hx hb dX7_firstMisfit_23 (by decide) (fun c4 => ?_) (fun c4 => ?_)
    · have hf := it_t hf c4
      obtain ⟨y5, ey5⟩ : ∃ z : Int32, z = x2 + 1 := ⟨_, rfl⟩
      have hf := sq_e hf y5 ey5
      refine lv_iinc (v := y5) (lv' := [(2, .int y5), (0, .ref (ad 0)), (1, .ref (ad 16))]) hx hb dX7_firstMisfit_43 hl (k := 2) rfl (by rw [ey5]; rfl) (by decide) rfl (fun ls hl => ?_)
      refine lv_goto (tgt := 10) hx hb dX7_firstMisfit_46 (by decide) ?_
      exact hK10 σ3 y5 _ _ _ hB (lv_sub hl [1, 2, 0] rfl) hf
    · have hf := it_f hf c4
      refine lv_aload_n hx hb dX7_firstMisfit_26 rfl (lv_at hl 0 rfl) ?_
      refine rc_get (own := RX7) hx hb hts inC_7 hown hV hB 0 (c34 rfl hB) (ceq_0 _ _ _) rfl 4 (Nat.le_of_ble_eq_true rfl) qf_X7_35 rfl dX7_firstMisfit_27 ?_
      refine lv_iload_n hx hb dX7_firstMisfit_30 rfl (lv_at hl 2 rfl) ?_
      obtain ⟨r6, σ7, hkr6, hf⟩ := bd_e hf
      refine rc_callV (own := RX7) (av := [.int x2]) (rest := []) (rv := (some (.int r6))) hx hb hml hown hts hl.1 hV hB 31 (c34 rfl hB) (ceq_31 _ _ _) rfl (cc_X2_offAt l D ad cy z n σ3 x2 hkr6) (kwc_X7_316  hts ⟨Nat.le_of_ble_eq_true rfl, Nat.le_of_ble_eq_true rfl⟩) rfl rfl (lv_room (Nat.le_of_ble_eq_true rfl)) dX7_firstMisfit_31 (Nat.le_refl _) (Nat.le_refl _) (fun H locs hB => ?_)
      refine W.eq (g2 := F0 m 34 ls [.int r6]) rfl ?_
      refine lv_aload_n hx hb dX7_firstMisfit_34 rfl (lv_at hl 1 rfl) ?_
      refine rc_get (own := RX7) hx hb hts inC_4 hown hV hB 16 (c34 rfl hB) (ceq_16 _ _ _) rfl 2 (Nat.le_of_ble_eq_true rfl) qf_X7_228 rfl dX7_firstMisfit_35 ?_
      refine lv_icmp_le (tgt := 43) hx hb dX7_firstMisfit_38 (by decide) (fun c8 => ?_) (fun c8 => ?_)
      · have hf := it_t hf c8
        obtain ⟨y9, ey9⟩ : ∃ z : Int32, z = x2 + 1 := ⟨_, rfl⟩
        have hf := sq_e hf y9 ey9
        refine lv_iinc (v := y9) (lv' := [(2, .int y9), (0, .ref (ad 0)), (1, .ref (ad 16))]) hx hb dX7_firstMisfit_43 hl (k := 2) rfl (by rw [ey9]; rfl) (by decide) rfl (fun ls hl => ?_)
        refine lv_goto (tgt := 10) hx hb dX7_firstMisfit_46 (by decide) ?_
        exact hK10 σ7 y9 _ _ _ hB (lv_sub hl [1, 2, 0] rfl) hf
      · have hf := it_f hf c8
        refine lv_iload_n hx hb dX7_firstMisfit_41 rfl (lv_at hl 2 rfl) ?_
        obtain ⟨rfl, rfl⟩ := so_e hf
        exact rc_iret hx hb hr hlocks hB dX7_firstMisfit_42
def lc_X7_firstMisfit_10 (n : Nat) : Nat → CS → Int32 → Option ((Int32) × CS)
  | 0 => fun _ _ => none
  | k + 1 => bc_X7_firstMisfit_10 n (lc_X7_firstMisfit_10 n k)
theorem tlc_X7_firstMisfit_10 {p : Program} {l : Launch} {e : Env} {s : State} {m : MethodId} {args : Array Value} {below : List Frame} {meth : Method} {c : Code} {D : va_G} {A : Nat → Prop} {ad : Nat → Nat} {cy : CY} {z : CZ} {r0 : Int32} {σ0 : CS} (hc : cxB RX7 wsC cX7_firstMisfit 3 (some .int) p s m args meth c) (hV : cV D cy z A s) (n : Nat) : ∀ (k : Nat) (σ : CS) (x2 : Int32) (H : Heap) (locs : List Loc) (ls : Array Slot), cB D ad cy A s.heap σ H locs → lv_has ls 3 [(0, .ref (ad 0)), (1, .ref (ad 16)), (2, .int x2)] → lc_X7_firstMisfit_10 n k σ x2 = some (r0, σ0) → W p l e rm_X7_firstMisfit s m args below meth c H locs 0 0 (MQ below (cQ D ad cy A (some (.int r0)) σ0) args s 0 0 A) (F0 m 10 ls []) := by
  intro k
  induction k with
  | zero =>
    intro σ x2 H locs ls hB hl hf
    have hf : (none : Option ((Int32) × CS)) = some (r0, σ0) := hf
    cases hf
  | succ k ih =>
    intro σ x2 H locs ls hB hl hf
    exact tbc_X7_firstMisfit_10 hc hV n (lc_X7_firstMisfit_10 n k) ih σ x2 hB hl hf
def fc_X7_firstMisfit (n : Nat) (σ : CS) : Option ((Int32) × CS) := sq (0 : Int32) (fun y1 => lc_X7_firstMisfit_10 n n σ y1)
set_option maxRecDepth 100000 in
set_option maxHeartbeats 4000000 in
theorem tbc_X7_firstMisfit_0 {p : Program} {l : Launch} {e : Env} {s : State} {m : MethodId} {args : Array Value} {below : List Frame} {meth : Method} {c : Code} {D : va_G} {A : Nat → Prop} {ad : Nat → Nat} {cy : CY} {z : CZ} {r0 : Int32} {σ0 : CS} (hc : cxB RX7 wsC cX7_firstMisfit 3 (some .int) p s m args meth c) (hV : cV D cy z A s) (n : Nat) (σ : CS) {H : Heap} {locs : List Loc} {ls : Array Slot} (hB : cB D ad cy A s.heap σ H locs) (hl : lv_has ls 3 [(0, .ref (ad 0))]) (hf : fc_X7_firstMisfit n σ = some (r0, σ0)) : W p l e rm_X7_firstMisfit s m args below meth c H locs 0 0 (MQ below (cQ D ad cy A (some (.int r0)) σ0) args s 0 0 A) (F0 m 0 ls []) := by
  obtain ⟨hx, hb, hml, hown, hts, hr, hlocks⟩ := id hc
  unfold fc_X7_firstMisfit at hf
  refine lv_aload_n hx hb dX7_firstMisfit_0 rfl (lv_at hl 0 rfl) ?_
  refine rc_get (own := RX7) hx hb hts inC_7 hown hV hB 0 (c34 rfl hB) (ceq_0 _ _ _) rfl 2 (Nat.le_of_ble_eq_true rfl) qf_X7_23 rfl dX7_firstMisfit_1 ?_
  refine rc_get (own := RX7) hx hb hts inC_0 hown hV hB 5 (c34 rfl hB) (ceq_5 _ _ _) rfl 7 (Nat.le_of_ble_eq_true rfl) qf_X7_219 rfl dX7_firstMisfit_4 ?_
  refine lv_astore_n (lv' := [(1, .ref (ad 16)), (0, .ref (ad 0))]) hx hb dX7_firstMisfit_7 rfl hl (by decide) rfl (fun ls hl => ?_)
  refine lv_iconst (v := 0) hx hb dX7_firstMisfit_8 (by decide) ?_
  refine lv_topi (fun y1 ey1 => ?_)
  have hf := sq_e hf y1 ey1
  refine lv_istore_n (lv' := [(2, .int y1), (1, .ref (ad 16)), (0, .ref (ad 0))]) hx hb dX7_firstMisfit_9 rfl hl (by decide) rfl (fun ls hl => ?_)
  exact tlc_X7_firstMisfit_10 hc hV n n σ y1 _ _ _ hB (lv_sub hl [2, 1, 0] rfl) hf
theorem cc_X7_firstMisfit (l : Launch) (D : va_G) (ad : Nat → Nat) (cy : CY) (z : CZ) (n : Nat) (σ : CS) {r0 : Int32} {σ0 : CS} (hf : fc_X7_firstMisfit n σ = some (r0, σ0)) : cM l yX7_firstMisfit wn_X7_firstMisfit rm_X7_firstMisfit D ad cy z [.ref (ad 0)] σ (some (.int r0)) σ0 :=
  rc_met (ret := (some .int)) (by decide) rfl (Nat.le_of_ble_eq_true rfl) (fun p e s m below meth c A ls hc hV hB hl => tbc_X7_firstMisfit_0 hc hV n σ hB hl hf)
/-! X7_firstOff -/
theorem kwc_X7_231 {R : Room} {s : State} {args : Array Value} (hts : ∀ w ∈ wsC, w.before args s = true) (hR : rm_X7_isSet.frames + 1 ≤ R.frames ∧ 8 + (2 + 11) + rm_X7_isSet.locals ≤ R.locals) : CallW R s args RX7 RX7 231 yX7_isSet cX7_isSet 2 (some .boolean) wn_X7_isSet rm_X7_isSet 0 0 1 := cwV 1 hts (gC_v qc_487 qc_488 qc_489 qc_85 qc_480) rfl rfl rfl (by decide +kernel) hR
theorem kwc_X7_234 {R : Room} {s : State} {args : Array Value} (hts : ∀ w ∈ wsC, w.before args s = true) (hR : rm_X7_firstMisfit.frames + 1 ≤ R.frames ∧ 8 + (3 + 11) + rm_X7_firstMisfit.locals ≤ R.locals) : CallW R s args RX7 RX7 234 yX7_firstMisfit cX7_firstMisfit 3 (some .int) wn_X7_firstMisfit rm_X7_firstMisfit 0 0 0 := cwV 0 hts (gC_v qc_490 qc_491 qc_492 qc_85 qc_486) rfl rfl rfl (by decide +kernel) hR
abbrev rm_X7_firstOff : Room := { frames := 7, cells := 0, slots := 0, locals := 199 }
abbrev wn_X7_firstOff : List Cond := .code yX7_firstOff cX7_firstOff 2 (some .int) :: wsC
def fc_X7_firstOff (n : Nat) (σ : CS) (x1 : Int32) : Option ((Int32) × CS) := bd (fc_X7_isSet n σ x1) (fun r1 σ2 => if (r1 = 0) then (bd (fc_X7_refuse n σ2 (-1)) (fun r11 σ12 => some (r11, σ12))) else (if ((σ2.1 12 0) = 0) then (bd (fc_X7_refuse n σ2 (-3)) (fun r9 σ10 => some (r9, σ10))) else (bd (fc_X7_beginAgain n σ2 x1) (fun _ σ6 => bd (fc_X7_firstMisfit n σ6) (fun r7 σ8 => some (r7, σ8))))))
set_option maxRecDepth 100000 in
set_option maxHeartbeats 4000000 in
theorem tbc_X7_firstOff_0 {p : Program} {l : Launch} {e : Env} {s : State} {m : MethodId} {args : Array Value} {below : List Frame} {meth : Method} {c : Code} {D : va_G} {A : Nat → Prop} {ad : Nat → Nat} {cy : CY} {z : CZ} {r0 : Int32} {σ0 : CS} (hc : cxB RX7 wsC cX7_firstOff 2 (some .int) p s m args meth c) (hV : cV D cy z A s) (n : Nat) (σ : CS) (x1 : Int32) {H : Heap} {locs : List Loc} {ls : Array Slot} (hB : cB D ad cy A s.heap σ H locs) (hl : lv_has ls 2 [(0, .ref (ad 0)), (1, .int x1)]) (hf : fc_X7_firstOff n σ x1 = some (r0, σ0)) : W p l e rm_X7_firstOff s m args below meth c H locs 0 0 (MQ below (cQ D ad cy A (some (.int r0)) σ0) args s 0 0 A) (F0 m 0 ls []) := by
  obtain ⟨hx, hb, hml, hown, hts, hr, hlocks⟩ := id hc
  unfold fc_X7_firstOff at hf
  refine lv_aload_n hx hb dX7_firstOff_0 rfl (lv_at hl 0 rfl) ?_
  refine lv_iload_n hx hb dX7_firstOff_1 rfl (lv_at hl 1 rfl) ?_
  obtain ⟨r1, σ2, hkr1, hf⟩ := bd_e hf
  refine rc_callV (own := RX7) (av := [.int x1]) (rest := []) (rv := (some (.int r1))) hx hb hml hown hts hl.1 hV hB 0 (c34 rfl hB) (ceq_0 _ _ _) rfl (cc_X7_isSet l D ad cy z n σ x1 hkr1) (kwc_X7_231  hts ⟨Nat.le_of_ble_eq_true rfl, Nat.le_of_ble_eq_true rfl⟩) rfl rfl (lv_room (Nat.le_of_ble_eq_true rfl)) dX7_firstOff_2 (Nat.le_refl _) (Nat.le_refl _) (fun H locs hB => ?_)
  refine W.eq (g2 := F0 m 5 ls [.int r1]) rfl ?_
  refine lv_if_ne (tgt := 14) hx hb dX7_firstOff_5 (by decide) (fun c3 => ?_) (fun c3 => ?_)
  · have hf := it_f hf c3
    refine lv_aload_n hx hb dX7_firstOff_14 rfl (lv_at hl 0 rfl) ?_
    refine rc_get (own := RX7) hx hb hts inC_7 hown hV hB 0 (c34 rfl hB) (ceq_0 _ _ _) rfl 2 (Nat.le_of_ble_eq_true rfl) qf_X7_23 rfl dX7_firstOff_15 ?_
    refine rc_get (own := RX7) hx hb hts inC_0 hown hV hB 5 (c34 rfl hB) (ceq_5 _ _ _) rfl 6 (Nat.le_of_ble_eq_true rfl) qf_X7_119 rfl dX7_firstOff_18 ?_
    refine rc_get (own := RX7) hx hb hts inC_5 hown hV hB 12 (c34 rfl hB) (ceq_12 _ _ _) rfl 0 (Nat.le_of_ble_eq_true rfl) qf_X7_165 rfl dX7_firstOff_21 ?_
    refine lv_if_ne (tgt := 34) hx hb dX7_firstOff_24 (by decide) (fun c4 => ?_) (fun c4 => ?_)
    · have hf := it_f hf c4
      refine lv_aload_n hx hb dX7_firstOff_34 rfl (lv_at hl 0 rfl) ?_
      refine lv_iload_n hx hb dX7_firstOff_35 rfl (lv_at hl 1 rfl) ?_
      obtain ⟨r5, σ6, hkr5, hf⟩ := bd_e hf
      refine rc_callV (own := RX7) (av := [.int x1]) (rest := []) (rv := none) hx hb hml hown hts hl.1 hV hB 0 (c34 rfl hB) (ceq_0 _ _ _) rfl (cc_X7_beginAgain l D ad cy z n σ2 x1 hkr5) (kwc_X7_207  hts ⟨Nat.le_of_ble_eq_true rfl, Nat.le_of_ble_eq_true rfl⟩) rfl rfl (lv_room (Nat.le_of_ble_eq_true rfl)) dX7_firstOff_36 (Nat.le_refl _) (Nat.le_refl _) (fun H locs hB => ?_)
      refine W.eq (g2 := F0 m 39 ls []) rfl ?_
      refine lv_aload_n hx hb dX7_firstOff_39 rfl (lv_at hl 0 rfl) ?_
      obtain ⟨r7, σ8, hkr7, hf⟩ := bd_e hf
      refine rc_callV (own := RX7) (av := []) (rest := []) (rv := (some (.int r7))) hx hb hml hown hts hl.1 hV hB 0 (c34 rfl hB) (ceq_0 _ _ _) rfl (cc_X7_firstMisfit l D ad cy z n σ6 hkr7) (kwc_X7_234  hts ⟨Nat.le_of_ble_eq_true rfl, Nat.le_of_ble_eq_true rfl⟩) rfl rfl (lv_room (Nat.le_of_ble_eq_true rfl)) dX7_firstOff_40 (Nat.le_refl _) (Nat.le_refl _) (fun H locs hB => ?_)
      refine W.eq (g2 := F0 m 43 ls [.int r7]) rfl ?_
      obtain ⟨rfl, rfl⟩ := so_e hf
      exact rc_iret hx hb hr hlocks hB dX7_firstOff_43
    · have hf := it_t hf c4
      refine lv_aload_n hx hb dX7_firstOff_27 rfl (lv_at hl 0 rfl) ?_
      refine lv_bipush (v := (-3)) hx hb dX7_firstOff_28 (by decide) ?_
      obtain ⟨r9, σ10, hkr9, hf⟩ := bd_e hf
      refine rc_callV (own := RX7) (av := [.int (-3)]) (rest := []) (rv := (some (.int r9))) hx hb hml hown hts hl.1 hV hB 0 (c34 rfl hB) (ceq_0 _ _ _) rfl (cc_X7_refuse l D ad cy z n σ2 (-3) hkr9) (kwc_X7_43  hts ⟨Nat.le_of_ble_eq_true rfl, Nat.le_of_ble_eq_true rfl⟩) rfl rfl (lv_room (Nat.le_of_ble_eq_true rfl)) dX7_firstOff_30 (Nat.le_refl _) (Nat.le_refl _) (fun H locs hB => ?_)
      refine W.eq (g2 := F0 m 33 ls [.int r9]) rfl ?_
      obtain ⟨rfl, rfl⟩ := so_e hf
      exact rc_iret hx hb hr hlocks hB dX7_firstOff_33
  · have hf := it_t hf c3
    refine lv_aload_n hx hb dX7_firstOff_8 rfl (lv_at hl 0 rfl) ?_
    refine lv_iconst (v := (-1)) hx hb dX7_firstOff_9 (by decide) ?_
    obtain ⟨r11, σ12, hkr11, hf⟩ := bd_e hf
    refine rc_callV (own := RX7) (av := [.int (-1)]) (rest := []) (rv := (some (.int r11))) hx hb hml hown hts hl.1 hV hB 0 (c34 rfl hB) (ceq_0 _ _ _) rfl (cc_X7_refuse l D ad cy z n σ2 (-1) hkr11) (kwc_X7_43  hts ⟨Nat.le_of_ble_eq_true rfl, Nat.le_of_ble_eq_true rfl⟩) rfl rfl (lv_room (Nat.le_of_ble_eq_true rfl)) dX7_firstOff_10 (Nat.le_refl _) (Nat.le_refl _) (fun H locs hB => ?_)
    refine W.eq (g2 := F0 m 13 ls [.int r11]) rfl ?_
    obtain ⟨rfl, rfl⟩ := so_e hf
    exact rc_iret hx hb hr hlocks hB dX7_firstOff_13
theorem cc_X7_firstOff (l : Launch) (D : va_G) (ad : Nat → Nat) (cy : CY) (z : CZ) (n : Nat) (σ : CS) (x1 : Int32) {r0 : Int32} {σ0 : CS} (hf : fc_X7_firstOff n σ x1 = some (r0, σ0)) : cM l yX7_firstOff wn_X7_firstOff rm_X7_firstOff D ad cy z [.ref (ad 0), .int x1] σ (some (.int r0)) σ0 :=
  rc_met (ret := (some .int)) (by decide) rfl (Nat.le_of_ble_eq_true rfl) (fun p e s m below meth c A ls hc hV hB hl => tbc_X7_firstOff_0 hc hV n σ x1 hB hl hf)
/-! J6_bitCount_0f7a4 -/
abbrev rm_J6_bitCount_0f7a4 : Room := { frames := 0, cells := 0, slots := 0, locals := 0 }
abbrev wn_J6_bitCount_0f7a4 : List Cond := .code yJ6_bitCount_0f7a4 cJ6_bitCount_0f7a4 1 (some .int) :: wsC
def fc_J6_bitCount_0f7a4 (n : Nat) (σ : CS) (x0 : Int32) : Option ((Int32) × CS) := sq ((Int32.toUInt32 x0 >>> (Int32.toUInt32 1 &&& Int32.toUInt32 31)).toInt32 : Int32) (fun y1 => sq ((x0 - (y1 &&& 1431655765)) : Int32) (fun y2 => sq ((Int32.toUInt32 y2 >>> (Int32.toUInt32 2 &&& Int32.toUInt32 31)).toInt32 : Int32) (fun y3 => sq (((y2 &&& 858993459) + (y3 &&& 858993459)) : Int32) (fun y4 => sq ((Int32.toUInt32 y4 >>> (Int32.toUInt32 4 &&& Int32.toUInt32 31)).toInt32 : Int32) (fun y5 => sq (((y4 + y5) &&& 252645135) : Int32) (fun y6 => sq ((Int32.toUInt32 y6 >>> (Int32.toUInt32 8 &&& Int32.toUInt32 31)).toInt32 : Int32) (fun y7 => sq ((y6 + y7) : Int32) (fun y8 => sq ((Int32.toUInt32 y8 >>> (Int32.toUInt32 16 &&& Int32.toUInt32 31)).toInt32 : Int32) (fun y9 => sq ((y8 + y9) : Int32) (fun y10 => some ((y10 &&& 63), σ)))))))))))
set_option maxRecDepth 100000 in
set_option maxHeartbeats 4000000 in
theorem tbc_J6_bitCount_0f7a4_0 {p : Program} {l : Launch} {e : Env} {s : State} {m : MethodId} {args : Array Value} {below : List Frame} {meth : Method} {c : Code} {D : va_G} {A : Nat → Prop} {ad : Nat → Nat} {cy : CY} {z : CZ} {r0 : Int32} {σ0 : CS} (hc : cxB RJ6 wsC cJ6_bitCount_0f7a4 1 (some .int) p s m args meth c) (hV : cV D cy z A s) (n : Nat) (σ : CS) (x0 : Int32) {H : Heap} {locs : List Loc} {ls : Array Slot} (hB : cB D ad cy A s.heap σ H locs) (hl : lv_has ls 1 [(0, .int x0)]) (hf : fc_J6_bitCount_0f7a4 n σ x0 = some (r0, σ0)) : W p l e rm_J6_bitCount_0f7a4 s m args below meth c H locs 0 0 (MQ below (cQ D ad cy A (some (.int r0)) σ0) args s 0 0 A) (F0 m 0 ls []) := by
  obtain ⟨hx, hb, hml, hown, hts, hr, hlocks⟩ := id hc
  unfold fc_J6_bitCount_0f7a4 at hf
  refine lv_iload_n hx hb dJ6_bitCount_0f7a4_0 rfl (lv_at hl 0 rfl) ?_
  refine lv_iload_n hx hb dJ6_bitCount_0f7a4_1 rfl (lv_at hl 0 rfl) ?_
  refine lv_iconst (v := 1) hx hb dJ6_bitCount_0f7a4_2 (by decide) ?_
  refine lv_iushr hx hb dJ6_bitCount_0f7a4_3 rfl ?_
  refine lv_topi (fun y1 ey1 => ?_)
  have hf := sq_e hf y1 ey1
  refine lv_ldcw (v := 1431655765) hx hb hown (hts _ qc_497) dJ6_bitCount_0f7a4_4 ?_
  refine lv_iand hx hb dJ6_bitCount_0f7a4_7 ?_
  refine lv_isub hx hb dJ6_bitCount_0f7a4_8 ?_
  refine lv_topi (fun y2 ey2 => ?_)
  have hf := sq_e hf y2 ey2
  refine lv_istore_n (lv' := [(0, .int y2)]) hx hb dJ6_bitCount_0f7a4_9 rfl hl (by decide) rfl (fun ls hl => ?_)
  refine lv_iload_n hx hb dJ6_bitCount_0f7a4_10 rfl (lv_at hl 0 rfl) ?_
  refine lv_ldcw (v := 858993459) hx hb hown (hts _ qc_498) dJ6_bitCount_0f7a4_11 ?_
  refine lv_iand hx hb dJ6_bitCount_0f7a4_14 ?_
  refine lv_iload_n hx hb dJ6_bitCount_0f7a4_15 rfl (lv_at hl 0 rfl) ?_
  refine lv_iconst (v := 2) hx hb dJ6_bitCount_0f7a4_16 (by decide) ?_
  refine lv_iushr hx hb dJ6_bitCount_0f7a4_17 rfl ?_
  refine lv_topi (fun y3 ey3 => ?_)
  have hf := sq_e hf y3 ey3
  refine lv_ldcw (v := 858993459) hx hb hown (hts _ qc_498) dJ6_bitCount_0f7a4_18 ?_
  refine lv_iand hx hb dJ6_bitCount_0f7a4_21 ?_
  refine lv_iadd hx hb dJ6_bitCount_0f7a4_22 ?_
  refine lv_topi (fun y4 ey4 => ?_)
  have hf := sq_e hf y4 ey4
  refine lv_istore_n (lv' := [(0, .int y4)]) hx hb dJ6_bitCount_0f7a4_23 rfl hl (by decide) rfl (fun ls hl => ?_)
  refine lv_iload_n hx hb dJ6_bitCount_0f7a4_24 rfl (lv_at hl 0 rfl) ?_
  refine lv_iload_n hx hb dJ6_bitCount_0f7a4_25 rfl (lv_at hl 0 rfl) ?_
  refine lv_iconst (v := 4) hx hb dJ6_bitCount_0f7a4_26 (by decide) ?_
  refine lv_iushr hx hb dJ6_bitCount_0f7a4_27 rfl ?_
  refine lv_topi (fun y5 ey5 => ?_)
  have hf := sq_e hf y5 ey5
  refine lv_iadd hx hb dJ6_bitCount_0f7a4_28 ?_
  refine lv_ldcw (v := 252645135) hx hb hown (hts _ qc_499) dJ6_bitCount_0f7a4_29 ?_
  refine lv_iand hx hb dJ6_bitCount_0f7a4_32 ?_
  refine lv_topi (fun y6 ey6 => ?_)
  have hf := sq_e hf y6 ey6
  refine lv_istore_n (lv' := [(0, .int y6)]) hx hb dJ6_bitCount_0f7a4_33 rfl hl (by decide) rfl (fun ls hl => ?_)
  refine lv_iload_n hx hb dJ6_bitCount_0f7a4_34 rfl (lv_at hl 0 rfl) ?_
  refine lv_iload_n hx hb dJ6_bitCount_0f7a4_35 rfl (lv_at hl 0 rfl) ?_
  refine lv_bipush (v := 8) hx hb dJ6_bitCount_0f7a4_36 (by decide) ?_
  refine lv_iushr hx hb dJ6_bitCount_0f7a4_38 rfl ?_
  refine lv_topi (fun y7 ey7 => ?_)
  have hf := sq_e hf y7 ey7
  refine lv_iadd hx hb dJ6_bitCount_0f7a4_39 ?_
  refine lv_topi (fun y8 ey8 => ?_)
  have hf := sq_e hf y8 ey8
  refine lv_istore_n (lv' := [(0, .int y8)]) hx hb dJ6_bitCount_0f7a4_40 rfl hl (by decide) rfl (fun ls hl => ?_)
  refine lv_iload_n hx hb dJ6_bitCount_0f7a4_41 rfl (lv_at hl 0 rfl) ?_
  refine lv_iload_n hx hb dJ6_bitCount_0f7a4_42 rfl (lv_at hl 0 rfl) ?_
  refine lv_bipush (v := 16) hx hb dJ6_bitCount_0f7a4_43 (by decide) ?_
  refine lv_iushr hx hb dJ6_bitCount_0f7a4_45 rfl ?_
  refine lv_topi (fun y9 ey9 => ?_)
  have hf := sq_e hf y9 ey9
  refine lv_iadd hx hb dJ6_bitCount_0f7a4_46 ?_
  refine lv_topi (fun y10 ey10 => ?_)
  have hf := sq_e hf y10 ey10
  refine lv_istore_n (lv' := [(0, .int y10)]) hx hb dJ6_bitCount_0f7a4_47 rfl hl (by decide) rfl (fun ls hl => ?_)
  refine lv_iload_n hx hb dJ6_bitCount_0f7a4_48 rfl (lv_at hl 0 rfl) ?_
  refine lv_bipush (v := 63) hx hb dJ6_bitCount_0f7a4_49 (by decide) ?_
  refine lv_iand hx hb dJ6_bitCount_0f7a4_51 ?_
  obtain ⟨rfl, rfl⟩ := so_e hf
  exact rc_iret hx hb hr hlocks hB dJ6_bitCount_0f7a4_52
theorem cc_J6_bitCount_0f7a4 (l : Launch) (D : va_G) (ad : Nat → Nat) (cy : CY) (z : CZ) (n : Nat) (σ : CS) (x0 : Int32) {r0 : Int32} {σ0 : CS} (hf : fc_J6_bitCount_0f7a4 n σ x0 = some (r0, σ0)) : cM l yJ6_bitCount_0f7a4 wn_J6_bitCount_0f7a4 rm_J6_bitCount_0f7a4 D ad cy z [.int x0] σ (some (.int r0)) σ0 :=
  rc_met (ret := (some .int)) (by decide) rfl (Nat.le_of_ble_eq_true rfl) (fun p e s m below meth c A ls hc hV hB hl => tbc_J6_bitCount_0f7a4_0 hc hV n σ x0 hB hl hf)
/-! X7_supposed -/
theorem kwc_X7_237 {R : Room} {s : State} {args : Array Value} (hts : ∀ w ∈ wsC, w.before args s = true) (hR : rm_J6_bitCount_0f7a4.frames + 1 ≤ R.frames ∧ 8 + (1 + 11) + rm_J6_bitCount_0f7a4.locals ≤ R.locals) : CallB R s args RX7 237 yJ6_bitCount_0f7a4 cJ6_bitCount_0f7a4 1 (some .int) wn_J6_bitCount_0f7a4 rm_J6_bitCount_0f7a4 0 0 1 ∧ (Cond.static yJ6_bitCount_0f7a4).before args s = true := va_cwS 1 hts (gC_s qc_493 qc_494 qc_495 qc_496) rfl rfl rfl (by decide +kernel) hR
abbrev rm_X7_supposed : Room := { frames := 7, cells := 0, slots := 0, locals := 199 }
abbrev wn_X7_supposed : List Cond := .code yX7_supposed cX7_supposed 5 (some .int) :: wsC
def bc_X7_supposed_104 (n : Nat) (σ : CS) (x1 : Int32) (x2 : Int32) (x3 : Int32) : Option ((Int32) × CS) := if (x1 = 0) then (some (x2, σ)) else (some (x3, σ))
set_option maxRecDepth 100000 in
set_option maxHeartbeats 4000000 in
theorem tbc_X7_supposed_104 {p : Program} {l : Launch} {e : Env} {s : State} {m : MethodId} {args : Array Value} {below : List Frame} {meth : Method} {c : Code} {D : va_G} {A : Nat → Prop} {ad : Nat → Nat} {cy : CY} {z : CZ} {r0 : Int32} {σ0 : CS} (hc : cxB RX7 wsC cX7_supposed 5 (some .int) p s m args meth c) (hV : cV D cy z A s) (n : Nat) (σ : CS) (x1 : Int32) (x2 : Int32) (x3 : Int32) {H : Heap} {locs : List Loc} {ls : Array Slot} (hB : cB D ad cy A s.heap σ H locs) (hl : lv_has ls 5 [(1, .int x1), (2, .int x2), (3, .int x3)]) (hf : bc_X7_supposed_104 n σ x1 x2 x3 = some (r0, σ0)) : W p l e rm_X7_supposed s m args below meth c H locs 0 0 (MQ below (cQ D ad cy A (some (.int r0)) σ0) args s 0 0 A) (F0 m 104 ls []) := by
  obtain ⟨hx, hb, hml, hown, hts, hr, hlocks⟩ := id hc
  unfold bc_X7_supposed_104 at hf
  refine lv_iload_n hx hb dX7_supposed_104 rfl (lv_at hl 0 rfl) ?_
  refine lv_if_ne (tgt := 112) hx hb dX7_supposed_105 (by decide) (fun c1 => ?_) (fun c1 => ?_)
  · have hf := it_f hf c1
    refine lv_iload_n hx hb dX7_supposed_112 rfl (lv_at hl 2 rfl) ?_
    obtain ⟨rfl, rfl⟩ := so_e hf
    exact rc_iret hx hb hr hlocks hB dX7_supposed_113
  · have hf := it_t hf c1
    refine lv_iload_n hx hb dX7_supposed_108 rfl (lv_at hl 1 rfl) ?_
    refine lv_goto (tgt := 113) hx hb dX7_supposed_109 (by decide) ?_
    obtain ⟨rfl, rfl⟩ := so_e hf
    exact rc_iret hx hb hr hlocks hB dX7_supposed_113
def bc_X7_supposed_42 (n : Nat) (K42 : CS → Int32 → Int32 → Int32 → Int32 → Option ((Int32) × CS)) (σ : CS) (x1 : Int32) (x2 : Int32) (x3 : Int32) (x4 : Int32) : Option ((Int32) × CS) := if (256 ≤ x4) then (bc_X7_supposed_104 n σ x1 x2 x3) else (bd (fc_X7_isSet n σ x4) (fun r2 σ3 => if (r2 = 0) then (bc_X7_supposed_104 n σ3 x1 x2 x3) else (bd (fc_X7_beginAgain n σ3 x4) (fun _ σ6 => bd (fc_X7_firstMisfit n σ6) (fun r7 σ8 => if (r7 = (-9)) then (sq (x2 + 1 : Int32) (fun y11 => if (x3 = (-9)) then (sq (x4 + 1 : Int32) (fun y13 => K42 σ8 x1 y11 x4 y13)) else (bd (fc_J6_bitCount_0f7a4 n σ8 x4) (fun r14 σ15 => bd (fc_J6_bitCount_0f7a4 n σ15 x3) (fun r16 σ17 => if (r16 ≤ r14) then (sq (x4 + 1 : Int32) (fun y19 => K42 σ17 x1 y11 x3 y19)) else (sq (x4 + 1 : Int32) (fun y20 => K42 σ17 x1 y11 x4 y20))))))) else (sq (x4 + 1 : Int32) (fun y10 => K42 σ8 x1 x2 x3 y10)))))))
set_option maxRecDepth 100000 in
set_option maxHeartbeats 4000000 in
theorem tbc_X7_supposed_42 {p : Program} {l : Launch} {e : Env} {s : State} {m : MethodId} {args : Array Value} {below : List Frame} {meth : Method} {c : Code} {D : va_G} {A : Nat → Prop} {ad : Nat → Nat} {cy : CY} {z : CZ} {r0 : Int32} {σ0 : CS} (hc : cxB RX7 wsC cX7_supposed 5 (some .int) p s m args meth c) (hV : cV D cy z A s) (n : Nat) (K42 : CS → Int32 → Int32 → Int32 → Int32 → Option ((Int32) × CS)) (hK42 : ∀ (σ : CS) (x1 : Int32) (x2 : Int32) (x3 : Int32) (x4 : Int32) (H : Heap) (locs : List Loc) (ls : Array Slot), cB D ad cy A s.heap σ H locs → lv_has ls 5 [(0, .ref (ad 0)), (1, .int x1), (2, .int x2), (3, .int x3), (4, .int x4)] → K42 σ x1 x2 x3 x4 = some (r0, σ0) → W p l e rm_X7_supposed s m args below meth c H locs 0 0 (MQ below (cQ D ad cy A (some (.int r0)) σ0) args s 0 0 A) (F0 m 42 ls [])) (σ : CS) (x1 : Int32) (x2 : Int32) (x3 : Int32) (x4 : Int32) {H : Heap} {locs : List Loc} {ls : Array Slot} (hB : cB D ad cy A s.heap σ H locs) (hl : lv_has ls 5 [(0, .ref (ad 0)), (1, .int x1), (2, .int x2), (3, .int x3), (4, .int x4)]) (hf : bc_X7_supposed_42 n K42 σ x1 x2 x3 x4 = some (r0, σ0)) : W p l e rm_X7_supposed s m args below meth c H locs 0 0 (MQ below (cQ D ad cy A (some (.int r0)) σ0) args s 0 0 A) (F0 m 42 ls []) := by
  obtain ⟨hx, hb, hml, hown, hts, hr, hlocks⟩ := id hc
  unfold bc_X7_supposed_42 at hf
  refine lv_iload hx hb dX7_supposed_42 (lv_at hl 4 rfl) ?_
  refine lv_sipush (v := 256) hx hb dX7_supposed_44 (by decide) ?_
  refine lv_icmp_ge (tgt := 104) hx hb dX7_supposed_47 (by decide) (fun c1 => ?_) (fun c1 => ?_)
  · have hf := it_t hf c1
    exact tbc_X7_supposed_104 hc hV n σ x1 x2 x3 hB (lv_sub hl [1, 2, 3] rfl) hf
  · have hf := it_f hf c1
    refine lv_aload_n hx hb dX7_supposed_50 rfl (lv_at hl 0 rfl) ?_
    refine lv_iload hx hb dX7_supposed_51 (lv_at hl 4 rfl) ?_
    obtain ⟨r2, σ3, hkr2, hf⟩ := bd_e hf
    refine rc_callV (own := RX7) (av := [.int x4]) (rest := []) (rv := (some (.int r2))) hx hb hml hown hts hl.1 hV hB 0 (c34 rfl hB) (ceq_0 _ _ _) rfl (cc_X7_isSet l D ad cy z n σ x4 hkr2) (kwc_X7_231  hts ⟨Nat.le_of_ble_eq_true rfl, Nat.le_of_ble_eq_true rfl⟩) rfl rfl (lv_room (Nat.le_of_ble_eq_true rfl)) dX7_supposed_53 (Nat.le_refl _) (Nat.le_refl _) (fun H locs hB => ?_)
    refine W.eq (g2 := F0 m 56 ls [.int r2]) rfl ?_
    refine lv_if_eq (tgt := 104) hx hb dX7_supposed_56 (by decide) (fun c4 => ?_) (fun c4 => ?_)
    · have hf := it_t hf c4
      exact tbc_X7_supposed_104 hc hV n σ3 x1 x2 x3 hB (lv_sub hl [1, 2, 3] rfl) hf
    · have hf := it_f hf c4
      refine lv_aload_n hx hb dX7_supposed_59 rfl (lv_at hl 0 rfl) ?_
      refine lv_iload hx hb dX7_supposed_60 (lv_at hl 4 rfl) ?_
      obtain ⟨r5, σ6, hkr5, hf⟩ := bd_e hf
      refine rc_callV (own := RX7) (av := [.int x4]) (rest := []) (rv := none) hx hb hml hown hts hl.1 hV hB 0 (c34 rfl hB) (ceq_0 _ _ _) rfl (cc_X7_beginAgain l D ad cy z n σ3 x4 hkr5) (kwc_X7_207  hts ⟨Nat.le_of_ble_eq_true rfl, Nat.le_of_ble_eq_true rfl⟩) rfl rfl (lv_room (Nat.le_of_ble_eq_true rfl)) dX7_supposed_62 (Nat.le_refl _) (Nat.le_refl _) (fun H locs hB => ?_)
      refine W.eq (g2 := F0 m 65 ls []) rfl ?_
      refine lv_aload_n hx hb dX7_supposed_65 rfl (lv_at hl 0 rfl) ?_
      obtain ⟨r7, σ8, hkr7, hf⟩ := bd_e hf
      refine rc_callV (own := RX7) (av := []) (rest := []) (rv := (some (.int r7))) hx hb hml hown hts hl.1 hV hB 0 (c34 rfl hB) (ceq_0 _ _ _) rfl (cc_X7_firstMisfit l D ad cy z n σ6 hkr7) (kwc_X7_234  hts ⟨Nat.le_of_ble_eq_true rfl, Nat.le_of_ble_eq_true rfl⟩) rfl rfl (lv_room (Nat.le_of_ble_eq_true rfl)) dX7_supposed_66 (Nat.le_refl _) (Nat.le_refl _) (fun H locs hB => ?_)
      refine W.eq (g2 := F0 m 69 ls [.int r7]) rfl ?_
      refine lv_bipush (v := (-9)) hx hb dX7_supposed_69 (by decide) ?_
      refine lv_icmp_ne (tgt := 98) hx hb dX7_supposed_71 (by decide) (fun c9 => ?_) (fun c9 => ?_)
      · have hf := it_f hf c9
        obtain ⟨y10, ey10⟩ : ∃ z : Int32, z = x4 + 1 := ⟨_, rfl⟩
        have hf := sq_e hf y10 ey10
        refine lv_iinc (v := y10) (lv' := [(4, .int y10), (0, .ref (ad 0)), (1, .int x1), (2, .int x2), (3, .int x3)]) hx hb dX7_supposed_98 hl (k := 4) rfl (by rw [ey10]; rfl) (by decide) rfl (fun ls hl => ?_)
        refine lv_goto (tgt := 42) hx hb dX7_supposed_101 (by decide) ?_
        exact hK42 σ8 x1 x2 x3 y10 _ _ _ hB (lv_sub hl [1, 2, 3, 4, 0] rfl) hf
      · have hf := it_t hf c9
        obtain ⟨y11, ey11⟩ : ∃ z : Int32, z = x2 + 1 := ⟨_, rfl⟩
        have hf := sq_e hf y11 ey11
        refine lv_iinc (v := y11) (lv' := [(2, .int y11), (0, .ref (ad 0)), (1, .int x1), (3, .int x3), (4, .int x4)]) hx hb dX7_supposed_74 hl (k := 2) rfl (by rw [ey11]; rfl) (by decide) rfl (fun ls hl => ?_)
        refine lv_iload_n hx hb dX7_supposed_77 rfl (lv_at hl 3 rfl) ?_
        refine lv_bipush (v := (-9)) hx hb dX7_supposed_78 (by decide) ?_
        refine lv_icmp_eq (tgt := 95) hx hb dX7_supposed_80 (by decide) (fun c12 => ?_) (fun c12 => ?_)
        · have hf := it_t hf c12
          refine lv_iload hx hb dX7_supposed_95 (lv_at hl 4 rfl) ?_
          refine lv_istore_n (lv' := [(3, .int x4), (2, .int y11), (0, .ref (ad 0)), (1, .int x1), (4, .int x4)]) hx hb dX7_supposed_97 rfl hl (by decide) rfl (fun ls hl => ?_)
          obtain ⟨y13, ey13⟩ : ∃ z : Int32, z = x4 + 1 := ⟨_, rfl⟩
          have hf := sq_e hf y13 ey13
          refine lv_iinc (v := y13) (lv' := [(4, .int y13), (3, .int x4), (2, .int y11), (0, .ref (ad 0)), (1, .int x1)]) hx hb dX7_supposed_98 hl (k := 4) rfl (by rw [ey13]; rfl) (by decide) rfl (fun ls hl => ?_)
          refine lv_goto (tgt := 42) hx hb dX7_supposed_101 (by decide) ?_
          exact hK42 σ8 x1 y11 x4 y13 _ _ _ hB (lv_sub hl [3, 4, 2, 1, 0] rfl) hf
        · have hf := it_f hf c12
          refine lv_iload hx hb dX7_supposed_83 (lv_at hl 4 rfl) ?_
          obtain ⟨r14, σ15, hkr14, hf⟩ := bd_e hf
          refine rc_callS (own := RX7) (av := [.int x4]) (rest := []) (rv := (some (.int r14))) hx hb hml hown hts hl.1 hV hB (cc_J6_bitCount_0f7a4 l D ad cy z n σ8 x4 hkr14) (kwc_X7_237  hts ⟨Nat.le_of_ble_eq_true rfl, Nat.le_of_ble_eq_true rfl⟩) rfl rfl (lv_room (Nat.le_of_ble_eq_true rfl)) dX7_supposed_85 (Nat.le_refl _) (Nat.le_refl _) (fun H locs hB => ?_)
          refine W.eq (g2 := F0 m 88 ls [.int r14]) rfl ?_
          refine lv_iload_n hx hb dX7_supposed_88 rfl (lv_at hl 3 rfl) ?_
          obtain ⟨r16, σ17, hkr16, hf⟩ := bd_e hf
          refine rc_callS (own := RX7) (av := [.int x3]) (rest := [.int r14]) (rv := (some (.int r16))) hx hb hml hown hts hl.1 hV hB (cc_J6_bitCount_0f7a4 l D ad cy z n σ15 x3 hkr16) (kwc_X7_237  hts ⟨Nat.le_of_ble_eq_true rfl, Nat.le_of_ble_eq_true rfl⟩) rfl rfl (lv_room (Nat.le_of_ble_eq_true rfl)) dX7_supposed_89 (Nat.le_refl _) (Nat.le_refl _) (fun H locs hB => ?_)
          refine W.eq (g2 := F0 m 92 ls [.int r16, .int r14]) rfl ?_
          refine lv_icmp_ge (tgt := 98) hx hb dX7_supposed_92 (by decide) (fun c18 => ?_) (fun c18 => ?_)
          · have hf := it_t hf c18
            obtain ⟨y19, ey19⟩ : ∃ z : Int32, z = x4 + 1 := ⟨_, rfl⟩
            have hf := sq_e hf y19 ey19
            refine lv_iinc (v := y19) (lv' := [(4, .int y19), (2, .int y11), (0, .ref (ad 0)), (1, .int x1), (3, .int x3)]) hx hb dX7_supposed_98 hl (k := 4) rfl (by rw [ey19]; rfl) (by decide) rfl (fun ls hl => ?_)
            refine lv_goto (tgt := 42) hx hb dX7_supposed_101 (by decide) ?_
            exact hK42 σ17 x1 y11 x3 y19 _ _ _ hB (lv_sub hl [2, 3, 1, 4, 0] rfl) hf
          · have hf := it_f hf c18
            refine lv_iload hx hb dX7_supposed_95 (lv_at hl 4 rfl) ?_
            refine lv_istore_n (lv' := [(3, .int x4), (2, .int y11), (0, .ref (ad 0)), (1, .int x1), (4, .int x4)]) hx hb dX7_supposed_97 rfl hl (by decide) rfl (fun ls hl => ?_)
            obtain ⟨y20, ey20⟩ : ∃ z : Int32, z = x4 + 1 := ⟨_, rfl⟩
            have hf := sq_e hf y20 ey20
            refine lv_iinc (v := y20) (lv' := [(4, .int y20), (3, .int x4), (2, .int y11), (0, .ref (ad 0)), (1, .int x1)]) hx hb dX7_supposed_98 hl (k := 4) rfl (by rw [ey20]; rfl) (by decide) rfl (fun ls hl => ?_)
            refine lv_goto (tgt := 42) hx hb dX7_supposed_101 (by decide) ?_
            exact hK42 σ17 x1 y11 x4 y20 _ _ _ hB (lv_sub hl [3, 4, 2, 1, 0] rfl) hf
def lc_X7_supposed_42 (n : Nat) : Nat → CS → Int32 → Int32 → Int32 → Int32 → Option ((Int32) × CS)
  | 0 => fun _ _ _ _ _ => none
  | k + 1 => bc_X7_supposed_42 n (lc_X7_supposed_42 n k)
theorem tlc_X7_supposed_42 {p : Program} {l : Launch} {e : Env} {s : State} {m : MethodId} {args : Array Value} {below : List Frame} {meth : Method} {c : Code} {D : va_G} {A : Nat → Prop} {ad : Nat → Nat} {cy : CY} {z : CZ} {r0 : Int32} {σ0 : CS} (hc : cxB RX7 wsC cX7_supposed 5 (some .int) p s m args meth c) (hV : cV D cy z A s) (n : Nat) : ∀ (k : Nat) (σ : CS) (x1 : Int32) (x2 : Int32) (x3 : Int32) (x4 : Int32) (H : Heap) (locs : List Loc) (ls : Array Slot), cB D ad cy A s.heap σ H locs → lv_has ls 5 [(0, .ref (ad 0)), (1, .int x1), (2, .int x2), (3, .int x3), (4, .int x4)] → lc_X7_supposed_42 n k σ x1 x2 x3 x4 = some (r0, σ0) → W p l e rm_X7_supposed s m args below meth c H locs 0 0 (MQ below (cQ D ad cy A (some (.int r0)) σ0) args s 0 0 A) (F0 m 42 ls []) := by
  intro k
  induction k with
  | zero =>
    intro σ x1 x2 x3 x4 H locs ls hB hl hf
    have hf : (none : Option ((Int32) × CS)) = some (r0, σ0) := hf
    cases hf
  | succ k ih =>
    intro σ x1 x2 x3 x4 H locs ls hB hl hf
    exact tbc_X7_supposed_42 hc hV n (lc_X7_supposed_42 n k) ih σ x1 x2 x3 x4 hB hl hf
def fc_X7_supposed (n : Nat) (σ : CS) (x1 : Int32) : Option ((Int32) × CS) := bd (fc_X7_isZeroOrOne n σ x1) (fun r1 σ2 => if (r1 = 0) then (bd (fc_X7_refuse n σ2 (-2)) (fun r10 σ11 => some (r10, σ11))) else (if ((σ2.1 12 0) = 0) then (bd (fc_X7_refuse n σ2 (-3)) (fun r8 σ9 => some (r8, σ9))) else (sq (0 : Int32) (fun y5 => sq ((-9) : Int32) (fun y6 => sq (0 : Int32) (fun y7 => lc_X7_supposed_42 n n σ2 x1 y5 y6 y7))))))
set_option maxRecDepth 100000 in
set_option maxHeartbeats 4000000 in
theorem tbc_X7_supposed_0 {p : Program} {l : Launch} {e : Env} {s : State} {m : MethodId} {args : Array Value} {below : List Frame} {meth : Method} {c : Code} {D : va_G} {A : Nat → Prop} {ad : Nat → Nat} {cy : CY} {z : CZ} {r0 : Int32} {σ0 : CS} (hc : cxB RX7 wsC cX7_supposed 5 (some .int) p s m args meth c) (hV : cV D cy z A s) (n : Nat) (σ : CS) (x1 : Int32) {H : Heap} {locs : List Loc} {ls : Array Slot} (hB : cB D ad cy A s.heap σ H locs) (hl : lv_has ls 5 [(0, .ref (ad 0)), (1, .int x1)]) (hf : fc_X7_supposed n σ x1 = some (r0, σ0)) : W p l e rm_X7_supposed s m args below meth c H locs 0 0 (MQ below (cQ D ad cy A (some (.int r0)) σ0) args s 0 0 A) (F0 m 0 ls []) := by
  obtain ⟨hx, hb, hml, hown, hts, hr, hlocks⟩ := id hc
  unfold fc_X7_supposed at hf
  refine lv_iload_n hx hb dX7_supposed_0 rfl (lv_at hl 1 rfl) ?_
  obtain ⟨r1, σ2, hkr1, hf⟩ := bd_e hf
  refine rc_callS (own := RX7) (av := [.int x1]) (rest := []) (rv := (some (.int r1))) hx hb hml hown hts hl.1 hV hB (cc_X7_isZeroOrOne l D ad cy z n σ x1 hkr1) (kwc_X7_132  hts ⟨Nat.le_of_ble_eq_true rfl, Nat.le_of_ble_eq_true rfl⟩) rfl rfl (lv_room (Nat.le_of_ble_eq_true rfl)) dX7_supposed_1 (Nat.le_refl _) (Nat.le_refl _) (fun H locs hB => ?_)
  refine W.eq (g2 := F0 m 4 ls [.int r1]) rfl ?_
  refine lv_if_ne (tgt := 14) hx hb dX7_supposed_4 (by decide) (fun c3 => ?_) (fun c3 => ?_)
  · have hf := it_f hf c3
    refine lv_aload_n hx hb dX7_supposed_14 rfl (lv_at hl 0 rfl) ?_
    refine rc_get (own := RX7) hx hb hts inC_7 hown hV hB 0 (c34 rfl hB) (ceq_0 _ _ _) rfl 2 (Nat.le_of_ble_eq_true rfl) qf_X7_23 rfl dX7_supposed_15 ?_
    refine rc_get (own := RX7) hx hb hts inC_0 hown hV hB 5 (c34 rfl hB) (ceq_5 _ _ _) rfl 6 (Nat.le_of_ble_eq_true rfl) qf_X7_119 rfl dX7_supposed_18 ?_
    refine rc_get (own := RX7) hx hb hts inC_5 hown hV hB 12 (c34 rfl hB) (ceq_12 _ _ _) rfl 0 (Nat.le_of_ble_eq_true rfl) qf_X7_165 rfl dX7_supposed_21 ?_
    refine lv_if_ne (tgt := 34) hx hb dX7_supposed_24 (by decide) (fun c4 => ?_) (fun c4 => ?_)
    · have hf := it_f hf c4
      refine lv_iconst (v := 0) hx hb dX7_supposed_34 (by decide) ?_
      refine lv_topi (fun y5 ey5 => ?_)
      have hf := sq_e hf y5 ey5
      refine lv_istore_n (lv' := [(2, .int y5), (0, .ref (ad 0)), (1, .int x1)]) hx hb dX7_supposed_35 rfl hl (by decide) rfl (fun ls hl => ?_)
      refine lv_bipush (v := (-9)) hx hb dX7_supposed_36 (by decide) ?_
      refine lv_topi (fun y6 ey6 => ?_)
      have hf := sq_e hf y6 ey6
      refine lv_istore_n (lv' := [(3, .int y6), (2, .int y5), (0, .ref (ad 0)), (1, .int x1)]) hx hb dX7_supposed_38 rfl hl (by decide) rfl (fun ls hl => ?_)
      refine lv_iconst (v := 0) hx hb dX7_supposed_39 (by decide) ?_
      refine lv_topi (fun y7 ey7 => ?_)
      have hf := sq_e hf y7 ey7
      refine lv_istore (lv' := [(4, .int y7), (3, .int y6), (2, .int y5), (0, .ref (ad 0)), (1, .int x1)]) hx hb dX7_supposed_40 hl (by decide) rfl (fun ls hl => ?_)
      exact tlc_X7_supposed_42 hc hV n n σ2 x1 y5 y6 y7 _ _ _ hB (lv_sub hl [3, 4, 2, 1, 0] rfl) hf
    · have hf := it_t hf c4
      refine lv_aload_n hx hb dX7_supposed_27 rfl (lv_at hl 0 rfl) ?_
      refine lv_bipush (v := (-3)) hx hb dX7_supposed_28 (by decide) ?_
      obtain ⟨r8, σ9, hkr8, hf⟩ := bd_e hf
      refine rc_callV (own := RX7) (av := [.int (-3)]) (rest := []) (rv := (some (.int r8))) hx hb hml hown hts hl.1 hV hB 0 (c34 rfl hB) (ceq_0 _ _ _) rfl (cc_X7_refuse l D ad cy z n σ2 (-3) hkr8) (kwc_X7_43  hts ⟨Nat.le_of_ble_eq_true rfl, Nat.le_of_ble_eq_true rfl⟩) rfl rfl (lv_room (Nat.le_of_ble_eq_true rfl)) dX7_supposed_30 (Nat.le_refl _) (Nat.le_refl _) (fun H locs hB => ?_)
      refine W.eq (g2 := F0 m 33 ls [.int r8]) rfl ?_
      obtain ⟨rfl, rfl⟩ := so_e hf
      exact rc_iret hx hb hr hlocks hB dX7_supposed_33
  · have hf := it_t hf c3
    refine lv_aload_n hx hb dX7_supposed_7 rfl (lv_at hl 0 rfl) ?_
    refine lv_bipush (v := (-2)) hx hb dX7_supposed_8 (by decide) ?_
    obtain ⟨r10, σ11, hkr10, hf⟩ := bd_e hf
    refine rc_callV (own := RX7) (av := [.int (-2)]) (rest := []) (rv := (some (.int r10))) hx hb hml hown hts hl.1 hV hB 0 (c34 rfl hB) (ceq_0 _ _ _) rfl (cc_X7_refuse l D ad cy z n σ2 (-2) hkr10) (kwc_X7_43  hts ⟨Nat.le_of_ble_eq_true rfl, Nat.le_of_ble_eq_true rfl⟩) rfl rfl (lv_room (Nat.le_of_ble_eq_true rfl)) dX7_supposed_10 (Nat.le_refl _) (Nat.le_refl _) (fun H locs hB => ?_)
    refine W.eq (g2 := F0 m 13 ls [.int r10]) rfl ?_
    obtain ⟨rfl, rfl⟩ := so_e hf
    exact rc_iret hx hb hr hlocks hB dX7_supposed_13
theorem cc_X7_supposed (l : Launch) (D : va_G) (ad : Nat → Nat) (cy : CY) (z : CZ) (n : Nat) (σ : CS) (x1 : Int32) {r0 : Int32} {σ0 : CS} (hf : fc_X7_supposed n σ x1 = some (r0, σ0)) : cM l yX7_supposed wn_X7_supposed rm_X7_supposed D ad cy z [.ref (ad 0), .int x1] σ (some (.int r0)) σ0 :=
  rc_met (ret := (some .int)) (by decide) rfl (Nat.le_of_ble_eq_true rfl) (fun p e s m below meth c A ls hc hV hB hl => tbc_X7_supposed_0 hc hV n σ x1 hB hl hf)
/-! X7_ticksAhead -/
abbrev rm_X7_ticksAhead : Room := { frames := 5, cells := 0, slots := 0, locals := 155 }
abbrev wn_X7_ticksAhead : List Cond := .code yX7_ticksAhead cX7_ticksAhead 8 (some .int) :: wsC
def bc_X7_ticksAhead_120 (n : Nat) (σ : CS) (t0 : Int32) : Option ((Int32) × CS) := ck (zb t0) (sq (cp σ 31 9 t0) (fun σ1 => bd (fc_X2_runTo n σ1 9999) (fun _ σ4 => some ((σ4.1 31 5), σ4))))
set_option maxRecDepth 100000 in
set_option maxHeartbeats 4000000 in
theorem tbc_X7_ticksAhead_120 {p : Program} {l : Launch} {e : Env} {s : State} {m : MethodId} {args : Array Value} {below : List Frame} {meth : Method} {c : Code} {D : va_G} {A : Nat → Prop} {ad : Nat → Nat} {cy : CY} {z : CZ} {r0 : Int32} {σ0 : CS} (hc : cxB RX7 wsC cX7_ticksAhead 8 (some .int) p s m args meth c) (hV : cV D cy z A s) (n : Nat) (σ : CS) (t0 : Int32) {H : Heap} {locs : List Loc} {ls : Array Slot} (hB : cB D ad cy A s.heap σ H locs) (hl : lv_has ls 8 [(0, .ref (ad 0))]) (hf : bc_X7_ticksAhead_120 n σ t0 = some (r0, σ0)) : W p l e rm_X7_ticksAhead s m args below meth c H locs 0 0 (MQ below (cQ D ad cy A (some (.int r0)) σ0) args s 0 0 A) (F0 m 120 ls [.int t0, .ref (ad 31)]) := by
  obtain ⟨hx, hb, hml, hown, hts, hr, hlocks⟩ := id hc
  unfold bc_X7_ticksAhead_120 at hf
  obtain ⟨k2, hf⟩ := ck_e hf
  refine rc_puti (own := RX7) (ty := .boolean) hx hb hts inC_2 hown hV hB 31 (c34 rfl hB) (ceq_31 _ _ _) rfl 9 (Nat.le_of_ble_eq_true rfl) qf_X7_297 tyX2 tyX2_ok nmX2 (cst_31_9 _ _ _ _) rfl pdc_2_9 (zb_n k2) (zb_f k2) (Nat.le_of_ble_eq_true rfl) dX7_ticksAhead_120 (fun σ1 eσ1 H locs hB => ?_)
  have hf := sq_e hf σ1 eσ1
  refine lv_aload_n hx hb dX7_ticksAhead_123 rfl (lv_at hl 0 rfl) ?_
  refine rc_get (own := RX7) hx hb hts inC_7 hown hV hB 0 (c34 rfl hB) (ceq_0 _ _ _) rfl 4 (Nat.le_of_ble_eq_true rfl) qf_X7_35 rfl dX7_ticksAhead_124 ?_
  refine lv_sipush (v := 9999) hx hb dX7_ticksAhead_127 (by decide) ?_
  obtain ⟨r3, σ4, hkr3, hf⟩ := bd_e hf
  refine rc_callV (own := RX7) (av := [.int 9999]) (rest := []) (rv := none) hx hb hml hown hts hl.1 hV hB 31 (c34 rfl hB) (ceq_31 _ _ _) rfl (cc_X2_runTo l D ad cy z n σ1 9999 hkr3) (kwc_X7_211  hts ⟨Nat.le_of_ble_eq_true rfl, Nat.le_of_ble_eq_true rfl⟩) rfl rfl (lv_room (Nat.le_of_ble_eq_true rfl)) dX7_ticksAhead_130 (Nat.le_refl _) (Nat.le_refl _) (fun H locs hB => ?_)
  refine W.eq (g2 := F0 m 133 ls []) rfl ?_
  refine lv_aload_n hx hb dX7_ticksAhead_133 rfl (lv_at hl 0 rfl) ?_
  refine rc_get (own := RX7) hx hb hts inC_7 hown hV hB 0 (c34 rfl hB) (ceq_0 _ _ _) rfl 4 (Nat.le_of_ble_eq_true rfl) qf_X7_35 rfl dX7_ticksAhead_134 ?_
  refine rc_get (own := RX7) hx hb hts inC_2 hown hV hB 31 (c34 rfl hB) (ceq_31 _ _ _) rfl 5 (Nat.le_of_ble_eq_true rfl) qf_X7_155 rfl dX7_ticksAhead_137 ?_
  obtain ⟨rfl, rfl⟩ := so_e hf
  exact rc_iret hx hb hr hlocks hB dX7_ticksAhead_140
def bc_X7_ticksAhead_112 (n : Nat) (σ : CS) (t0 : Int32) (t1 : Int32) : Option ((Int32) × CS) := if (t1 = t0) then (bc_X7_ticksAhead_120 n σ 0) else (bc_X7_ticksAhead_120 n σ 1)
set_option maxRecDepth 100000 in
set_option maxHeartbeats 4000000 in
theorem tbc_X7_ticksAhead_112 {p : Program} {l : Launch} {e : Env} {s : State} {m : MethodId} {args : Array Value} {below : List Frame} {meth : Method} {c : Code} {D : va_G} {A : Nat → Prop} {ad : Nat → Nat} {cy : CY} {z : CZ} {r0 : Int32} {σ0 : CS} (hc : cxB RX7 wsC cX7_ticksAhead 8 (some .int) p s m args meth c) (hV : cV D cy z A s) (n : Nat) (σ : CS) (t0 : Int32) (t1 : Int32) {H : Heap} {locs : List Loc} {ls : Array Slot} (hB : cB D ad cy A s.heap σ H locs) (hl : lv_has ls 8 [(0, .ref (ad 0))]) (hf : bc_X7_ticksAhead_112 n σ t0 t1 = some (r0, σ0)) : W p l e rm_X7_ticksAhead s m args below meth c H locs 0 0 (MQ below (cQ D ad cy A (some (.int r0)) σ0) args s 0 0 A) (F0 m 112 ls [.int t0, .int t1, .ref (ad 31)]) := by
  obtain ⟨hx, hb, hml, hown, hts, hr, hlocks⟩ := id hc
  unfold bc_X7_ticksAhead_112 at hf
  refine lv_icmp_eq (tgt := 119) hx hb dX7_ticksAhead_112 (by decide) (fun c1 => ?_) (fun c1 => ?_)
  · have hf := it_t hf c1
    refine lv_iconst (v := 0) hx hb dX7_ticksAhead_119 (by decide) ?_
    exact tbc_X7_ticksAhead_120 hc hV n σ 0 hB (lv_sub hl [0] rfl) hf
  · have hf := it_f hf c1
    refine lv_iconst (v := 1) hx hb dX7_ticksAhead_115 (by decide) ?_
    refine lv_goto (tgt := 120) hx hb dX7_ticksAhead_116 (by decide) ?_
    exact tbc_X7_ticksAhead_120 hc hV n σ 1 hB (lv_sub hl [0] rfl) hf
def bc_X7_ticksAhead_61 (n : Nat) (σ : CS) (x1 : Int32) (x2 : Int32) (x5 : Int32) (x6 : Int32) (t0 : Int32) : Option ((Int32) × CS) := bd (fc_X0_plateAt n σ x5) (fun r1 σ2 => bd (fc_X2_begin n σ2 r1 t0 x6) (fun _ σ4 => sq (cp σ4 31 7 x2) (fun σ5 => if (x1 = 1) then (bc_X7_ticksAhead_112 n σ5 1 (σ5.1 5 11)) else (bc_X7_ticksAhead_112 n σ5 0 (σ5.1 5 11)))))
set_option maxRecDepth 100000 in
set_option maxHeartbeats 4000000 in
theorem tbc_X7_ticksAhead_61 {p : Program} {l : Launch} {e : Env} {s : State} {m : MethodId} {args : Array Value} {below : List Frame} {meth : Method} {c : Code} {D : va_G} {A : Nat → Prop} {ad : Nat → Nat} {cy : CY} {z : CZ} {r0 : Int32} {σ0 : CS} (hc : cxB RX7 wsC cX7_ticksAhead 8 (some .int) p s m args meth c) (hV : cV D cy z A s) (n : Nat) (σ : CS) (x1 : Int32) (x2 : Int32) (x5 : Int32) (x6 : Int32) (t0 : Int32) {H : Heap} {locs : List Loc} {ls : Array Slot} (hB : cB D ad cy A s.heap σ H locs) (hl : lv_has ls 8 [(0, .ref (ad 0)), (1, .int x1), (2, .int x2), (5, .int x5), (6, .int x6)]) (hf : bc_X7_ticksAhead_61 n σ x1 x2 x5 x6 t0 = some (r0, σ0)) : W p l e rm_X7_ticksAhead s m args below meth c H locs 0 0 (MQ below (cQ D ad cy A (some (.int r0)) σ0) args s 0 0 A) (F0 m 61 ls [.int t0]) := by
  obtain ⟨hx, hb, hml, hown, hts, hr, hlocks⟩ := id hc
  unfold bc_X7_ticksAhead_61 at hf
  refine lv_istore (lv' := [(7, .int t0), (0, .ref (ad 0)), (1, .int x1), (2, .int x2), (5, .int x5), (6, .int x6)]) hx hb dX7_ticksAhead_61 hl (by decide) rfl (fun ls hl => ?_)
  refine lv_aload_n hx hb dX7_ticksAhead_63 rfl (lv_at hl 1 rfl) ?_
  refine rc_get (own := RX7) hx hb hts inC_7 hown hV hB 0 (c34 rfl hB) (ceq_0 _ _ _) rfl 4 (Nat.le_of_ble_eq_true rfl) qf_X7_35 rfl dX7_ticksAhead_64 ?_
  refine lv_aload_n hx hb dX7_ticksAhead_67 rfl (lv_at hl 1 rfl) ?_
  refine rc_get (own := RX7) hx hb hts inC_7 hown hV hB 0 (c34 rfl hB) (ceq_0 _ _ _) rfl 2 (Nat.le_of_ble_eq_true rfl) qf_X7_23 rfl dX7_ticksAhead_68 ?_
  refine lv_iload hx hb dX7_ticksAhead_71 (lv_at hl 4 rfl) ?_
  obtain ⟨r1, σ2, hkr1, hf⟩ := bd_e hf
  refine rc_callV (own := RX7) (av := [.int x5]) (rest := [.ref (ad 31)]) (rv := (some (va_rf (Option.map ad r1)))) hx hb hml hown hts hl.1 hV hB 5 (c34 rfl hB) (ceq_5 _ _ _) rfl (cc_X0_plateAt l D ad cy z n σ x5 hkr1) (kwc_X7_69  hts ⟨Nat.le_of_ble_eq_true rfl, Nat.le_of_ble_eq_true rfl⟩) rfl rfl (lv_room (Nat.le_of_ble_eq_true rfl)) dX7_ticksAhead_73 (Nat.le_refl _) (Nat.le_refl _) (fun H locs hB => ?_)
  refine W.eq (g2 := F0 m 76 ls [va_rf (Option.map ad r1), .ref (ad 31)]) rfl ?_
  refine lv_iload hx hb dX7_ticksAhead_76 (lv_at hl 0 rfl) ?_
  refine lv_iload hx hb dX7_ticksAhead_78 (lv_at hl 5 rfl) ?_
  obtain ⟨r3, σ4, hkr3, hf⟩ := bd_e hf
  refine rc_callV (own := RX7) (av := [va_rf (Option.map ad r1), .int t0, .int x6]) (rest := []) (rv := none) hx hb hml hown hts hl.1 hV hB 31 (c34 rfl hB) (ceq_31 _ _ _) rfl (cc_X2_begin l D ad cy z n σ2 r1 t0 x6 hkr3) (kwc_X7_151  hts ⟨Nat.le_of_ble_eq_true rfl, Nat.le_of_ble_eq_true rfl⟩) rfl rfl (lv_room (Nat.le_of_ble_eq_true rfl)) dX7_ticksAhead_80 (Nat.le_refl _) (Nat.le_refl _) (fun H locs hB => ?_)
  refine W.eq (g2 := F0 m 83 ls []) rfl ?_
  refine lv_aload_n hx hb dX7_ticksAhead_83 rfl (lv_at hl 1 rfl) ?_
  refine rc_get (own := RX7) hx hb hts inC_7 hown hV hB 0 (c34 rfl hB) (ceq_0 _ _ _) rfl 4 (Nat.le_of_ble_eq_true rfl) qf_X7_35 rfl dX7_ticksAhead_84 ?_
  refine lv_iload_n hx hb dX7_ticksAhead_87 rfl (lv_at hl 3 rfl) ?_
  refine rc_puti (own := RX7) (ty := .int) hx hb hts inC_2 hown hV hB 31 (c34 rfl hB) (ceq_31 _ _ _) rfl 7 (Nat.le_of_ble_eq_true rfl) qf_X7_294 tyX2 tyX2_ok nmX2 (cst_31_7 _ _ _ _) rfl pdc_2_7 rfl rfl (Nat.le_of_ble_eq_true rfl) dX7_ticksAhead_88 (fun σ5 eσ5 H locs hB => ?_)
  have hf := sq_e hf σ5 eσ5
  refine lv_aload_n hx hb dX7_ticksAhead_91 rfl (lv_at hl 1 rfl) ?_
  refine rc_get (own := RX7) hx hb hts inC_7 hown hV hB 0 (c34 rfl hB) (ceq_0 _ _ _) rfl 4 (Nat.le_of_ble_eq_true rfl) qf_X7_35 rfl dX7_ticksAhead_92 ?_
  refine lv_aload_n hx hb dX7_ticksAhead_95 rfl (lv_at hl 1 rfl) ?_
  refine rc_get (own := RX7) hx hb hts inC_7 hown hV hB 0 (c34 rfl hB) (ceq_0 _ _ _) rfl 2 (Nat.le_of_ble_eq_true rfl) qf_X7_23 rfl dX7_ticksAhead_96 ?_
  refine rc_get (own := RX7) hx hb hts inC_0 hown hV hB 5 (c34 rfl hB) (ceq_5 _ _ _) rfl 11 (Nat.le_of_ble_eq_true rfl) qf_X7_141 rfl dX7_ticksAhead_99 ?_
  refine lv_iload_n hx hb dX7_ticksAhead_102 rfl (lv_at hl 2 rfl) ?_
  refine lv_iconst (v := 1) hx hb dX7_ticksAhead_103 (by decide) ?_
  refine lv_icmp_ne (tgt := 111) hx hb dX7_ticksAhead_104 (by decide) (fun c6 => ?_) (fun c6 => ?_)
  · have hf := it_f hf c6
    refine lv_iconst (v := 0) hx hb dX7_ticksAhead_111 (by decide) ?_
    exact tbc_X7_ticksAhead_112 hc hV n σ5 0 (σ5.1 5 11) hB (lv_sub hl [1] rfl) hf
  · have hf := it_t hf c6
    refine lv_iconst (v := 1) hx hb dX7_ticksAhead_107 (by decide) ?_
    refine lv_goto (tgt := 112) hx hb dX7_ticksAhead_108 (by decide) ?_
    exact tbc_X7_ticksAhead_112 hc hV n σ5 1 (σ5.1 5 11) hB (lv_sub hl [1] rfl) hf
def bc_X7_ticksAhead_39 (n : Nat) (σ : CS) (x1 : Int32) (x2 : Int32) (x5 : Int32) (t0 : Int32) : Option ((Int32) × CS) := if (x1 = 4) then (bc_X7_ticksAhead_61 n σ x1 x2 x5 t0 ((σ.1 12 2) / 2)) else (bc_X7_ticksAhead_61 n σ x1 x2 x5 t0 (σ.1 12 2))
set_option maxRecDepth 100000 in
set_option maxHeartbeats 4000000 in
theorem tbc_X7_ticksAhead_39 {p : Program} {l : Launch} {e : Env} {s : State} {m : MethodId} {args : Array Value} {below : List Frame} {meth : Method} {c : Code} {D : va_G} {A : Nat → Prop} {ad : Nat → Nat} {cy : CY} {z : CZ} {r0 : Int32} {σ0 : CS} (hc : cxB RX7 wsC cX7_ticksAhead 8 (some .int) p s m args meth c) (hV : cV D cy z A s) (n : Nat) (σ : CS) (x1 : Int32) (x2 : Int32) (x5 : Int32) (t0 : Int32) {H : Heap} {locs : List Loc} {ls : Array Slot} (hB : cB D ad cy A s.heap σ H locs) (hl : lv_has ls 8 [(0, .ref (ad 0)), (1, .int x1), (2, .int x2), (4, .ref (ad 12)), (5, .int x5)]) (hf : bc_X7_ticksAhead_39 n σ x1 x2 x5 t0 = some (r0, σ0)) : W p l e rm_X7_ticksAhead s m args below meth c H locs 0 0 (MQ below (cQ D ad cy A (some (.int r0)) σ0) args s 0 0 A) (F0 m 39 ls [.int t0]) := by
  obtain ⟨hx, hb, hml, hown, hts, hr, hlocks⟩ := id hc
  unfold bc_X7_ticksAhead_39 at hf
  refine lv_istore (lv' := [(6, .int t0), (0, .ref (ad 0)), (1, .int x1), (2, .int x2), (4, .ref (ad 12)), (5, .int x5)]) hx hb dX7_ticksAhead_39 hl (by decide) rfl (fun ls hl => ?_)
  refine lv_iload_n hx hb dX7_ticksAhead_41 rfl (lv_at hl 2 rfl) ?_
  refine lv_iconst (v := 4) hx hb dX7_ticksAhead_42 (by decide) ?_
  refine lv_icmp_ne (tgt := 56) hx hb dX7_ticksAhead_43 (by decide) (fun c1 => ?_) (fun c1 => ?_)
  · have hf := it_f hf c1
    refine lv_aload hx hb dX7_ticksAhead_56 (lv_at hl 4 rfl) ?_
    refine rc_get (own := RX7) hx hb hts inC_5 hown hV hB 12 (c34 rfl hB) (ceq_12 _ _ _) rfl 2 (Nat.le_of_ble_eq_true rfl) qf_X7_291 rfl dX7_ticksAhead_58 ?_
    exact tbc_X7_ticksAhead_61 hc hV n σ x1 x2 x5 t0 (σ.1 12 2) hB (lv_sub hl [1, 2, 3, 5, 0] rfl) hf
  · have hf := it_t hf c1
    refine lv_aload hx hb dX7_ticksAhead_46 (lv_at hl 4 rfl) ?_
    refine rc_get (own := RX7) hx hb hts inC_5 hown hV hB 12 (c34 rfl hB) (ceq_12 _ _ _) rfl 2 (Nat.le_of_ble_eq_true rfl) qf_X7_291 rfl dX7_ticksAhead_48 ?_
    refine lv_iconst (v := 2) hx hb dX7_ticksAhead_51 (by decide) ?_
    refine lv_idiv hx hb dX7_ticksAhead_52 (by decide) ?_
    refine lv_goto (tgt := 61) hx hb dX7_ticksAhead_53 (by decide) ?_
    exact tbc_X7_ticksAhead_61 hc hV n σ x1 x2 x5 t0 ((σ.1 12 2) / 2) hB (lv_sub hl [1, 2, 3, 5, 0] rfl) hf
def bc_X7_ticksAhead_23 (n : Nat) (σ : CS) (x1 : Int32) (x2 : Int32) (x3 : Int32) (t0 : Int32) : Option ((Int32) × CS) := if (x1 = 3) then (bc_X7_ticksAhead_39 n σ x1 x2 t0 x3) else (bc_X7_ticksAhead_39 n σ x1 x2 t0 (σ.1 12 3))
set_option maxRecDepth 100000 in
set_option maxHeartbeats 4000000 in
theorem tbc_X7_ticksAhead_23 {p : Program} {l : Launch} {e : Env} {s : State} {m : MethodId} {args : Array Value} {below : List Frame} {meth : Method} {c : Code} {D : va_G} {A : Nat → Prop} {ad : Nat → Nat} {cy : CY} {z : CZ} {r0 : Int32} {σ0 : CS} (hc : cxB RX7 wsC cX7_ticksAhead 8 (some .int) p s m args meth c) (hV : cV D cy z A s) (n : Nat) (σ : CS) (x1 : Int32) (x2 : Int32) (x3 : Int32) (t0 : Int32) {H : Heap} {locs : List Loc} {ls : Array Slot} (hB : cB D ad cy A s.heap σ H locs) (hl : lv_has ls 8 [(0, .ref (ad 0)), (1, .int x1), (2, .int x2), (3, .int x3), (4, .ref (ad 12))]) (hf : bc_X7_ticksAhead_23 n σ x1 x2 x3 t0 = some (r0, σ0)) : W p l e rm_X7_ticksAhead s m args below meth c H locs 0 0 (MQ below (cQ D ad cy A (some (.int r0)) σ0) args s 0 0 A) (F0 m 23 ls [.int t0]) := by
  obtain ⟨hx, hb, hml, hown, hts, hr, hlocks⟩ := id hc
  unfold bc_X7_ticksAhead_23 at hf
  refine lv_istore (lv' := [(5, .int t0), (0, .ref (ad 0)), (1, .int x1), (2, .int x2), (3, .int x3), (4, .ref (ad 12))]) hx hb dX7_ticksAhead_23 hl (by decide) rfl (fun ls hl => ?_)
  refine lv_iload_n hx hb dX7_ticksAhead_25 rfl (lv_at hl 2 rfl) ?_
  refine lv_iconst (v := 3) hx hb dX7_ticksAhead_26 (by decide) ?_
  refine lv_icmp_ne (tgt := 34) hx hb dX7_ticksAhead_27 (by decide) (fun c1 => ?_) (fun c1 => ?_)
  · have hf := it_f hf c1
    refine lv_aload hx hb dX7_ticksAhead_34 (lv_at hl 5 rfl) ?_
    refine rc_get (own := RX7) hx hb hts inC_5 hown hV hB 12 (c34 rfl hB) (ceq_12 _ _ _) rfl 3 (Nat.le_of_ble_eq_true rfl) qf_X7_174 rfl dX7_ticksAhead_36 ?_
    exact tbc_X7_ticksAhead_39 hc hV n σ x1 x2 t0 (σ.1 12 3) hB (lv_sub hl [1, 2, 3, 5, 0] rfl) hf
  · have hf := it_t hf c1
    refine lv_iload_n hx hb dX7_ticksAhead_30 rfl (lv_at hl 4 rfl) ?_
    refine lv_goto (tgt := 39) hx hb dX7_ticksAhead_31 (by decide) ?_
    exact tbc_X7_ticksAhead_39 hc hV n σ x1 x2 t0 x3 hB (lv_sub hl [1, 2, 3, 5, 0] rfl) hf
def fc_X7_ticksAhead (n : Nat) (σ : CS) (x1 : Int32) (x2 : Int32) (x3 : Int32) : Option ((Int32) × CS) := if (x1 = 2) then (bc_X7_ticksAhead_23 n σ x1 x2 x3 x3) else (bc_X7_ticksAhead_23 n σ x1 x2 x3 (σ.1 12 1))
set_option maxRecDepth 100000 in
set_option maxHeartbeats 4000000 in
theorem tbc_X7_ticksAhead_0 {p : Program} {l : Launch} {e : Env} {s : State} {m : MethodId} {args : Array Value} {below : List Frame} {meth : Method} {c : Code} {D : va_G} {A : Nat → Prop} {ad : Nat → Nat} {cy : CY} {z : CZ} {r0 : Int32} {σ0 : CS} (hc : cxB RX7 wsC cX7_ticksAhead 8 (some .int) p s m args meth c) (hV : cV D cy z A s) (n : Nat) (σ : CS) (x1 : Int32) (x2 : Int32) (x3 : Int32) {H : Heap} {locs : List Loc} {ls : Array Slot} (hB : cB D ad cy A s.heap σ H locs) (hl : lv_has ls 8 [(0, .ref (ad 0)), (1, .int x1), (2, .int x2), (3, .int x3)]) (hf : fc_X7_ticksAhead n σ x1 x2 x3 = some (r0, σ0)) : W p l e rm_X7_ticksAhead s m args below meth c H locs 0 0 (MQ below (cQ D ad cy A (some (.int r0)) σ0) args s 0 0 A) (F0 m 0 ls []) := by
  obtain ⟨hx, hb, hml, hown, hts, hr, hlocks⟩ := id hc
  unfold fc_X7_ticksAhead at hf
  refine lv_aload_n hx hb dX7_ticksAhead_0 rfl (lv_at hl 0 rfl) ?_
  refine rc_get (own := RX7) hx hb hts inC_7 hown hV hB 0 (c34 rfl hB) (ceq_0 _ _ _) rfl 2 (Nat.le_of_ble_eq_true rfl) qf_X7_23 rfl dX7_ticksAhead_1 ?_
  refine rc_get (own := RX7) hx hb hts inC_0 hown hV hB 5 (c34 rfl hB) (ceq_5 _ _ _) rfl 6 (Nat.le_of_ble_eq_true rfl) qf_X7_119 rfl dX7_ticksAhead_4 ?_
  refine lv_astore (lv' := [(4, .ref (ad 12)), (0, .ref (ad 0)), (1, .int x1), (2, .int x2), (3, .int x3)]) hx hb dX7_ticksAhead_7 hl (by decide) rfl (fun ls hl => ?_)
  refine lv_iload_n hx hb dX7_ticksAhead_9 rfl (lv_at hl 2 rfl) ?_
  refine lv_iconst (v := 2) hx hb dX7_ticksAhead_10 (by decide) ?_
  refine lv_icmp_ne (tgt := 18) hx hb dX7_ticksAhead_11 (by decide) (fun c1 => ?_) (fun c1 => ?_)
  · have hf := it_f hf c1
    refine lv_aload hx hb dX7_ticksAhead_18 (lv_at hl 0 rfl) ?_
    refine rc_get (own := RX7) hx hb hts inC_5 hown hV hB 12 (c34 rfl hB) (ceq_12 _ _ _) rfl 1 (Nat.le_of_ble_eq_true rfl) qf_X7_168 rfl dX7_ticksAhead_20 ?_
    exact tbc_X7_ticksAhead_23 hc hV n σ x1 x2 x3 (σ.1 12 1) hB (lv_sub hl [1, 2, 3, 4, 0] rfl) hf
  · have hf := it_t hf c1
    refine lv_iload_n hx hb dX7_ticksAhead_14 rfl (lv_at hl 4 rfl) ?_
    refine lv_goto (tgt := 23) hx hb dX7_ticksAhead_15 (by decide) ?_
    exact tbc_X7_ticksAhead_23 hc hV n σ x1 x2 x3 x3 hB (lv_sub hl [1, 2, 3, 4, 0] rfl) hf
theorem cc_X7_ticksAhead (l : Launch) (D : va_G) (ad : Nat → Nat) (cy : CY) (z : CZ) (n : Nat) (σ : CS) (x1 : Int32) (x2 : Int32) (x3 : Int32) {r0 : Int32} {σ0 : CS} (hf : fc_X7_ticksAhead n σ x1 x2 x3 = some (r0, σ0)) : cM l yX7_ticksAhead wn_X7_ticksAhead rm_X7_ticksAhead D ad cy z [.ref (ad 0), .int x1, .int x2, .int x3] σ (some (.int r0)) σ0 :=
  rc_met (ret := (some .int)) (by decide) rfl (Nat.le_of_ble_eq_true rfl) (fun p e s m below meth c A ls hc hV hB hl => tbc_X7_ticksAhead_0 hc hV n σ x1 x2 x3 hB hl hf)
/-! X7_ahead -/
theorem kwc_X7_242 {R : Room} {s : State} {args : Array Value} (hts : ∀ w ∈ wsC, w.before args s = true) (hR : rm_X7_ticksAhead.frames + 1 ≤ R.frames ∧ 8 + (8 + 11) + rm_X7_ticksAhead.locals ≤ R.locals) : CallW R s args RX7 RX7 242 yX7_ticksAhead cX7_ticksAhead 8 (some .int) wn_X7_ticksAhead rm_X7_ticksAhead 0 0 3 := cwV 3 hts (gC_v qc_502 qc_503 qc_504 qc_85 qc_501) rfl rfl rfl (by decide +kernel) hR
abbrev rm_X7_ahead : Room := { frames := 6, cells := 0, slots := 0, locals := 182 }
abbrev wn_X7_ahead : List Cond := .code yX7_ahead cX7_ahead 4 (some .int) :: wsC
def bc_X7_ahead_42 (n : Nat) (σ : CS) (x1 : Int32) (x2 : Int32) (x3 : Int32) : Option ((Int32) × CS) := if (x1 < 0) then (bd (fc_X7_refuse n σ (-2)) (fun r2 σ3 => some (r2, σ3))) else (if (x1 ≤ 4) then (if ((σ.1 12 0) = 0) then (bd (fc_X7_refuse n σ (-3)) (fun r8 σ9 => some (r8, σ9))) else (bd (fc_X7_ticksAhead n σ x1 x2 x3) (fun r6 σ7 => some (r6, σ7)))) else (bd (fc_X7_refuse n σ (-2)) (fun r10 σ11 => some (r10, σ11))))
set_option maxRecDepth 100000 in
set_option maxHeartbeats 4000000 in
theorem tbc_X7_ahead_42 {p : Program} {l : Launch} {e : Env} {s : State} {m : MethodId} {args : Array Value} {below : List Frame} {meth : Method} {c : Code} {D : va_G} {A : Nat → Prop} {ad : Nat → Nat} {cy : CY} {z : CZ} {r0 : Int32} {σ0 : CS} (hc : cxB RX7 wsC cX7_ahead 4 (some .int) p s m args meth c) (hV : cV D cy z A s) (n : Nat) (σ : CS) (x1 : Int32) (x2 : Int32) (x3 : Int32) {H : Heap} {locs : List Loc} {ls : Array Slot} (hB : cB D ad cy A s.heap σ H locs) (hl : lv_has ls 4 [(0, .ref (ad 0)), (1, .int x1), (2, .int x2), (3, .int x3)]) (hf : bc_X7_ahead_42 n σ x1 x2 x3 = some (r0, σ0)) : W p l e rm_X7_ahead s m args below meth c H locs 0 0 (MQ below (cQ D ad cy A (some (.int r0)) σ0) args s 0 0 A) (F0 m 42 ls []) := by
  obtain ⟨hx, hb, hml, hown, hts, hr, hlocks⟩ := id hc
  unfold bc_X7_ahead_42 at hf
  refine lv_iload_n hx hb dX7_ahead_42 rfl (lv_at hl 1 rfl) ?_
  refine lv_if_lt (tgt := 51) hx hb dX7_ahead_43 (by decide) (fun c1 => ?_) (fun c1 => ?_)
  · have hf := it_t hf c1
    refine lv_aload_n hx hb dX7_ahead_51 rfl (lv_at hl 0 rfl) ?_
    refine lv_bipush (v := (-2)) hx hb dX7_ahead_52 (by decide) ?_
    obtain ⟨r2, σ3, hkr2, hf⟩ := bd_e hf
    refine rc_callV (own := RX7) (av := [.int (-2)]) (rest := []) (rv := (some (.int r2))) hx hb hml hown hts hl.1 hV hB 0 (c34 rfl hB) (ceq_0 _ _ _) rfl (cc_X7_refuse l D ad cy z n σ (-2) hkr2) (kwc_X7_43  hts ⟨Nat.le_of_ble_eq_true rfl, Nat.le_of_ble_eq_true rfl⟩) rfl rfl (lv_room (Nat.le_of_ble_eq_true rfl)) dX7_ahead_54 (Nat.le_refl _) (Nat.le_refl _) (fun H locs hB => ?_)
    refine W.eq (g2 := F0 m 57 ls [.int r2]) rfl ?_
    obtain ⟨rfl, rfl⟩ := so_e hf
    exact rc_iret hx hb hr hlocks hB dX7_ahead_57
  · have hf := it_f hf c1
    refine lv_iload_n hx hb dX7_ahead_46 rfl (lv_at hl 1 rfl) ?_
    refine lv_iconst (v := 4) hx hb dX7_ahead_47 (by decide) ?_
    refine lv_icmp_le (tgt := 58) hx hb dX7_ahead_48 (by decide) (fun c4 => ?_) (fun c4 => ?_)
    · have hf := it_t hf c4
      refine lv_aload_n hx hb dX7_ahead_58 rfl (lv_at hl 0 rfl) ?_
      refine rc_get (own := RX7) hx hb hts inC_7 hown hV hB 0 (c34 rfl hB) (ceq_0 _ _ _) rfl 2 (Nat.le_of_ble_eq_true rfl) qf_X7_23 rfl dX7_ahead_59 ?_
      refine rc_get (own := RX7) hx hb hts inC_0 hown hV hB 5 (c34 rfl hB) (ceq_5 _ _ _) rfl 6 (Nat.le_of_ble_eq_true rfl) qf_X7_119 rfl dX7_ahead_62 ?_
      refine rc_get (own := RX7) hx hb hts inC_5 hown hV hB 12 (c34 rfl hB) (ceq_12 _ _ _) rfl 0 (Nat.le_of_ble_eq_true rfl) qf_X7_165 rfl dX7_ahead_65 ?_
      refine lv_if_ne (tgt := 78) hx hb dX7_ahead_68 (by decide) (fun c5 => ?_) (fun c5 => ?_)
      · have hf := it_f hf c5
        refine lv_aload_n hx hb dX7_ahead_78 rfl (lv_at hl 0 rfl) ?_
        refine lv_iload_n hx hb dX7_ahead_79 rfl (lv_at hl 1 rfl) ?_
        refine lv_iload_n hx hb dX7_ahead_80 rfl (lv_at hl 2 rfl) ?_
        refine lv_iload_n hx hb dX7_ahead_81 rfl (lv_at hl 3 rfl) ?_
        obtain ⟨r6, σ7, hkr6, hf⟩ := bd_e hf
        refine rc_callV (own := RX7) (av := [.int x1, .int x2, .int x3]) (rest := []) (rv := (some (.int r6))) hx hb hml hown hts hl.1 hV hB 0 (c34 rfl hB) (ceq_0 _ _ _) rfl (cc_X7_ticksAhead l D ad cy z n σ x1 x2 x3 hkr6) (kwc_X7_242  hts ⟨Nat.le_of_ble_eq_true rfl, Nat.le_of_ble_eq_true rfl⟩) rfl rfl (lv_room (Nat.le_of_ble_eq_true rfl)) dX7_ahead_82 (Nat.le_refl _) (Nat.le_refl _) (fun H locs hB => ?_)
        refine W.eq (g2 := F0 m 85 ls [.int r6]) rfl ?_
        obtain ⟨rfl, rfl⟩ := so_e hf
        exact rc_iret hx hb hr hlocks hB dX7_ahead_85
      · have hf := it_t hf c5
        refine lv_aload_n hx hb dX7_ahead_71 rfl (lv_at hl 0 rfl) ?_
        refine lv_bipush (v := (-3)) hx hb dX7_ahead_72 (by decide) ?_
        obtain ⟨r8, σ9, hkr8, hf⟩ := bd_e hf
        refine rc_callV (own := RX7) (av := [.int (-3)]) (rest := []) (rv := (some (.int r8))) hx hb hml hown hts hl.1 hV hB 0 (c34 rfl hB) (ceq_0 _ _ _) rfl (cc_X7_refuse l D ad cy z n σ (-3) hkr8) (kwc_X7_43  hts ⟨Nat.le_of_ble_eq_true rfl, Nat.le_of_ble_eq_true rfl⟩) rfl rfl (lv_room (Nat.le_of_ble_eq_true rfl)) dX7_ahead_74 (Nat.le_refl _) (Nat.le_refl _) (fun H locs hB => ?_)
        refine W.eq (g2 := F0 m 77 ls [.int r8]) rfl ?_
        obtain ⟨rfl, rfl⟩ := so_e hf
        exact rc_iret hx hb hr hlocks hB dX7_ahead_77
    · have hf := it_f hf c4
      refine lv_aload_n hx hb dX7_ahead_51 rfl (lv_at hl 0 rfl) ?_
      refine lv_bipush (v := (-2)) hx hb dX7_ahead_52 (by decide) ?_
      obtain ⟨r10, σ11, hkr10, hf⟩ := bd_e hf
      refine rc_callV (own := RX7) (av := [.int (-2)]) (rest := []) (rv := (some (.int r10))) hx hb hml hown hts hl.1 hV hB 0 (c34 rfl hB) (ceq_0 _ _ _) rfl (cc_X7_refuse l D ad cy z n σ (-2) hkr10) (kwc_X7_43  hts ⟨Nat.le_of_ble_eq_true rfl, Nat.le_of_ble_eq_true rfl⟩) rfl rfl (lv_room (Nat.le_of_ble_eq_true rfl)) dX7_ahead_54 (Nat.le_refl _) (Nat.le_refl _) (fun H locs hB => ?_)
      refine W.eq (g2 := F0 m 57 ls [.int r10]) rfl ?_
      obtain ⟨rfl, rfl⟩ := so_e hf
      exact rc_iret hx hb hr hlocks hB dX7_ahead_57
def bc_X7_ahead_24 (n : Nat) (σ : CS) (x1 : Int32) (x2 : Int32) (x3 : Int32) : Option ((Int32) × CS) := if (x1 = 3) then (bd (fc_X7_isFloor n σ x3) (fun r2 σ3 => if (r2 = 0) then (bd (fc_X7_refuse n σ3 (-1)) (fun r5 σ6 => some (r5, σ6))) else (bc_X7_ahead_42 n σ3 x1 x2 x3))) else (bc_X7_ahead_42 n σ x1 x2 x3)
set_option maxRecDepth 100000 in
set_option maxHeartbeats 4000000 in
theorem tbc_X7_ahead_24 {p : Program} {l : Launch} {e : Env} {s : State} {m : MethodId} {args : Array Value} {below : List Frame} {meth : Method} {c : Code} {D : va_G} {A : Nat → Prop} {ad : Nat → Nat} {cy : CY} {z : CZ} {r0 : Int32} {σ0 : CS} (hc : cxB RX7 wsC cX7_ahead 4 (some .int) p s m args meth c) (hV : cV D cy z A s) (n : Nat) (σ : CS) (x1 : Int32) (x2 : Int32) (x3 : Int32) {H : Heap} {locs : List Loc} {ls : Array Slot} (hB : cB D ad cy A s.heap σ H locs) (hl : lv_has ls 4 [(0, .ref (ad 0)), (1, .int x1), (2, .int x2), (3, .int x3)]) (hf : bc_X7_ahead_24 n σ x1 x2 x3 = some (r0, σ0)) : W p l e rm_X7_ahead s m args below meth c H locs 0 0 (MQ below (cQ D ad cy A (some (.int r0)) σ0) args s 0 0 A) (F0 m 24 ls []) := by
  obtain ⟨hx, hb, hml, hown, hts, hr, hlocks⟩ := id hc
  unfold bc_X7_ahead_24 at hf
  refine lv_iload_n hx hb dX7_ahead_24 rfl (lv_at hl 1 rfl) ?_
  refine lv_iconst (v := 3) hx hb dX7_ahead_25 (by decide) ?_
  refine lv_icmp_ne (tgt := 42) hx hb dX7_ahead_26 (by decide) (fun c1 => ?_) (fun c1 => ?_)
  · have hf := it_f hf c1
    exact tbc_X7_ahead_42 hc hV n σ x1 x2 x3 hB (lv_sub hl [0, 1, 2, 3] rfl) hf
  · have hf := it_t hf c1
    refine lv_iload_n hx hb dX7_ahead_29 rfl (lv_at hl 3 rfl) ?_
    obtain ⟨r2, σ3, hkr2, hf⟩ := bd_e hf
    refine rc_callS (own := RX7) (av := [.int x3]) (rest := []) (rv := (some (.int r2))) hx hb hml hown hts hl.1 hV hB (cc_X7_isFloor l D ad cy z n σ x3 hkr2) (kwc_X7_128  hts ⟨Nat.le_of_ble_eq_true rfl, Nat.le_of_ble_eq_true rfl⟩) rfl rfl (lv_room (Nat.le_of_ble_eq_true rfl)) dX7_ahead_30 (Nat.le_refl _) (Nat.le_refl _) (fun H locs hB => ?_)
    refine W.eq (g2 := F0 m 33 ls [.int r2]) rfl ?_
    refine lv_if_ne (tgt := 42) hx hb dX7_ahead_33 (by decide) (fun c4 => ?_) (fun c4 => ?_)
    · have hf := it_f hf c4
      exact tbc_X7_ahead_42 hc hV n σ3 x1 x2 x3 hB (lv_sub hl [0, 1, 2, 3] rfl) hf
    · have hf := it_t hf c4
      refine lv_aload_n hx hb dX7_ahead_36 rfl (lv_at hl 0 rfl) ?_
      refine lv_iconst (v := (-1)) hx hb dX7_ahead_37 (by decide) ?_
      obtain ⟨r5, σ6, hkr5, hf⟩ := bd_e hf
      refine rc_callV (own := RX7) (av := [.int (-1)]) (rest := []) (rv := (some (.int r5))) hx hb hml hown hts hl.1 hV hB 0 (c34 rfl hB) (ceq_0 _ _ _) rfl (cc_X7_refuse l D ad cy z n σ3 (-1) hkr5) (kwc_X7_43  hts ⟨Nat.le_of_ble_eq_true rfl, Nat.le_of_ble_eq_true rfl⟩) rfl rfl (lv_room (Nat.le_of_ble_eq_true rfl)) dX7_ahead_38 (Nat.le_refl _) (Nat.le_refl _) (fun H locs hB => ?_)
      refine W.eq (g2 := F0 m 41 ls [.int r5]) rfl ?_
      obtain ⟨rfl, rfl⟩ := so_e hf
      exact rc_iret hx hb hr hlocks hB dX7_ahead_41
def fc_X7_ahead (n : Nat) (σ : CS) (x1 : Int32) (x2 : Int32) (x3 : Int32) : Option ((Int32) × CS) := bd (fc_X7_isSet n σ x2) (fun r1 σ2 => if (r1 = 0) then (bd (fc_X7_refuse n σ2 (-1)) (fun r4 σ5 => some (r4, σ5))) else (if (x1 = 2) then (bd (fc_X0_plateAt n σ2 x3) (fun r7 σ8 => oc r7 (bd (fc_X7_refuse n σ8 (-1)) (fun r10 σ11 => some (r10, σ11))) (fun q9 => bc_X7_ahead_24 n σ8 x1 x2 x3))) else (bc_X7_ahead_24 n σ2 x1 x2 x3)))
set_option maxRecDepth 100000 in
set_option maxHeartbeats 4000000 in
theorem tbc_X7_ahead_0 {p : Program} {l : Launch} {e : Env} {s : State} {m : MethodId} {args : Array Value} {below : List Frame} {meth : Method} {c : Code} {D : va_G} {A : Nat → Prop} {ad : Nat → Nat} {cy : CY} {z : CZ} {r0 : Int32} {σ0 : CS} (hc : cxB RX7 wsC cX7_ahead 4 (some .int) p s m args meth c) (hV : cV D cy z A s) (n : Nat) (σ : CS) (x1 : Int32) (x2 : Int32) (x3 : Int32) {H : Heap} {locs : List Loc} {ls : Array Slot} (hB : cB D ad cy A s.heap σ H locs) (hl : lv_has ls 4 [(0, .ref (ad 0)), (1, .int x1), (2, .int x2), (3, .int x3)]) (hf : fc_X7_ahead n σ x1 x2 x3 = some (r0, σ0)) : W p l e rm_X7_ahead s m args below meth c H locs 0 0 (MQ below (cQ D ad cy A (some (.int r0)) σ0) args s 0 0 A) (F0 m 0 ls []) := by
  obtain ⟨hx, hb, hml, hown, hts, hr, hlocks⟩ := id hc
  unfold fc_X7_ahead at hf
  refine lv_aload_n hx hb dX7_ahead_0 rfl (lv_at hl 0 rfl) ?_
  refine lv_iload_n hx hb dX7_ahead_1 rfl (lv_at hl 2 rfl) ?_
  obtain ⟨r1, σ2, hkr1, hf⟩ := bd_e hf
  refine rc_callV (own := RX7) (av := [.int x2]) (rest := []) (rv := (some (.int r1))) hx hb hml hown hts hl.1 hV hB 0 (c34 rfl hB) (ceq_0 _ _ _) rfl (cc_X7_isSet l D ad cy z n σ x2 hkr1) (kwc_X7_231  hts ⟨Nat.le_of_ble_eq_true rfl, Nat.le_of_ble_eq_true rfl⟩) rfl rfl (lv_room (Nat.le_of_ble_eq_true rfl)) dX7_ahead_2 (Nat.le_refl _) (Nat.le_refl _) (fun H locs hB => ?_)
  refine W.eq (g2 := F0 m 5 ls [.int r1]) rfl ?_
  refine lv_if_eq (tgt := 36) hx hb dX7_ahead_5 (by decide) (fun c3 => ?_) (fun c3 => ?_)
  · have hf := it_t hf c3
    refine lv_aload_n hx hb dX7_ahead_36 rfl (lv_at hl 0 rfl) ?_
    refine lv_iconst (v := (-1)) hx hb dX7_ahead_37 (by decide) ?_
    obtain ⟨r4, σ5, hkr4, hf⟩ := bd_e hf
    refine rc_callV (own := RX7) (av := [.int (-1)]) (rest := []) (rv := (some (.int r4))) hx hb hml hown hts hl.1 hV hB 0 (c34 rfl hB) (ceq_0 _ _ _) rfl (cc_X7_refuse l D ad cy z n σ2 (-1) hkr4) (kwc_X7_43  hts ⟨Nat.le_of_ble_eq_true rfl, Nat.le_of_ble_eq_true rfl⟩) rfl rfl (lv_room (Nat.le_of_ble_eq_true rfl)) dX7_ahead_38 (Nat.le_refl _) (Nat.le_refl _) (fun H locs hB => ?_)
    refine W.eq (g2 := F0 m 41 ls [.int r4]) rfl ?_
    obtain ⟨rfl, rfl⟩ := so_e hf
    exact rc_iret hx hb hr hlocks hB dX7_ahead_41
  · have hf := it_f hf c3
    refine lv_iload_n hx hb dX7_ahead_8 rfl (lv_at hl 1 rfl) ?_
    refine lv_iconst (v := 2) hx hb dX7_ahead_9 (by decide) ?_
    refine lv_icmp_ne (tgt := 24) hx hb dX7_ahead_10 (by decide) (fun c6 => ?_) (fun c6 => ?_)
    · have hf := it_f hf c6
      exact tbc_X7_ahead_24 hc hV n σ2 x1 x2 x3 hB (lv_sub hl [0, 1, 2, 3] rfl) hf
    · have hf := it_t hf c6
      refine lv_aload_n hx hb dX7_ahead_13 rfl (lv_at hl 0 rfl) ?_
      refine rc_get (own := RX7) hx hb hts inC_7 hown hV hB 0 (c34 rfl hB) (ceq_0 _ _ _) rfl 2 (Nat.le_of_ble_eq_true rfl) qf_X7_23 rfl dX7_ahead_14 ?_
      refine lv_iload_n hx hb dX7_ahead_17 rfl (lv_at hl 3 rfl) ?_
      obtain ⟨r7, σ8, hkr7, hf⟩ := bd_e hf
      refine rc_callV (own := RX7) (av := [.int x3]) (rest := []) (rv := (some (va_rf (Option.map ad r7)))) hx hb hml hown hts hl.1 hV hB 5 (c34 rfl hB) (ceq_5 _ _ _) rfl (cc_X0_plateAt l D ad cy z n σ2 x3 hkr7) (kwc_X7_69  hts ⟨Nat.le_of_ble_eq_true rfl, Nat.le_of_ble_eq_true rfl⟩) rfl rfl (lv_room (Nat.le_of_ble_eq_true rfl)) dX7_ahead_18 (Nat.le_refl _) (Nat.le_refl _) (fun H locs hB => ?_)
      refine W.eq (g2 := F0 m 21 ls [va_rf (Option.map ad r7)]) rfl ?_
      rcases r7 with _ | q9
      · have hf := oc_n hf
        refine lv_ifnullN (tgt := 36) hx hb dX7_ahead_21 (by decide) ?_
        refine lv_aload_n hx hb dX7_ahead_36 rfl (lv_at hl 0 rfl) ?_
        refine lv_iconst (v := (-1)) hx hb dX7_ahead_37 (by decide) ?_
        obtain ⟨r10, σ11, hkr10, hf⟩ := bd_e hf
        refine rc_callV (own := RX7) (av := [.int (-1)]) (rest := []) (rv := (some (.int r10))) hx hb hml hown hts hl.1 hV hB 0 (c34 rfl hB) (ceq_0 _ _ _) rfl (cc_X7_refuse l D ad cy z n σ8 (-1) hkr10) (kwc_X7_43  hts ⟨Nat.le_of_ble_eq_true rfl, Nat.le_of_ble_eq_true rfl⟩) rfl rfl (lv_room (Nat.le_of_ble_eq_true rfl)) dX7_ahead_38 (Nat.le_refl _) (Nat.le_refl _) (fun H locs hB => ?_)
        refine W.eq (g2 := F0 m 41 ls [.int r10]) rfl ?_
        obtain ⟨rfl, rfl⟩ := so_e hf
        exact rc_iret hx hb hr hlocks hB dX7_ahead_41
      · have hf := oc_s hf
        refine lv_ifnull hx hb dX7_ahead_21 ?_
        exact tbc_X7_ahead_24 hc hV n σ8 x1 x2 x3 hB (lv_sub hl [0, 1, 2, 3] rfl) hf
theorem cc_X7_ahead (l : Launch) (D : va_G) (ad : Nat → Nat) (cy : CY) (z : CZ) (n : Nat) (σ : CS) (x1 : Int32) (x2 : Int32) (x3 : Int32) {r0 : Int32} {σ0 : CS} (hf : fc_X7_ahead n σ x1 x2 x3 = some (r0, σ0)) : cM l yX7_ahead wn_X7_ahead rm_X7_ahead D ad cy z [.ref (ad 0), .int x1, .int x2, .int x3] σ (some (.int r0)) σ0 :=
  rc_met (ret := (some .int)) (by decide) rfl (Nat.le_of_ble_eq_true rfl) (fun p e s m below meth c A ls hc hV hB hl => tbc_X7_ahead_0 hc hV n σ x1 x2 x3 hB hl hf)
