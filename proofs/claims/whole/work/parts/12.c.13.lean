/-! X7_restore -/
abbrev rm_X7_restore : Room := { frames := 3, cells := 0, slots := 0, locals := 103 }
abbrev wn_X7_restore : List Cond := .code yX7_restore cX7_restore 1 (some .int) :: wsC
def fc_X7_restore (n : Nat) (σ : CS) : Option ((Int32) × CS) := if ((σ.1 0 5) = 0) then (bd (fc_X7_refuse n σ (-3)) (fun r4 σ5 => some (r4, σ5))) else (bd (fc_X0_copyFrom_5_18 n σ) (fun _ σ3 => some ((σ3.1 5 8), σ3)))
set_option maxRecDepth 100000 in
set_option maxHeartbeats 4000000 in
theorem tbc_X7_restore_0 {p : Program} {l : Launch} {e : Env} {s : State} {m : MethodId} {args : Array Value} {below : List Frame} {meth : Method} {c : Code} {D : va_G} {A : Nat → Prop} {ad : Nat → Nat} {cy : CY} {z : CZ} {r0 : Int32} {σ0 : CS} (hc : cxB RX7 wsC cX7_restore 1 (some .int) p s m args meth c) (hV : cV D cy z A s) (n : Nat) (σ : CS) {H : Heap} {locs : List Loc} {ls : Array Slot} (hB : cB D ad cy A s.heap σ H locs) (hl : lv_has ls 1 [(0, .ref (ad 0))]) (hf : fc_X7_restore n σ = some (r0, σ0)) : W p l e rm_X7_restore s m args below meth c H locs 0 0 (MQ below (cQ D ad cy A (some (.int r0)) σ0) args s 0 0 A) (F0 m 0 ls []) := by
  obtain ⟨hx, hb, hml, hown, hts, hr, hlocks⟩ := id hc
  unfold fc_X7_restore at hf
  refine lv_aload_n hx hb dX7_restore_0 rfl (lv_at hl 0 rfl) ?_
  refine rc_get (own := RX7) hx hb hts inC_7 hown hV hB 0 (c34 rfl hB) (ceq_0 _ _ _) rfl 5 (Nat.le_of_ble_eq_true rfl) qf_X7_39 rfl dX7_restore_1 ?_
  refine lv_if_ne (tgt := 14) hx hb dX7_restore_4 (by decide) (fun c1 => ?_) (fun c1 => ?_)
  · have hf := it_f hf c1
    refine lv_aload_n hx hb dX7_restore_14 rfl (lv_at hl 0 rfl) ?_
    refine rc_get (own := RX7) hx hb hts inC_7 hown hV hB 0 (c34 rfl hB) (ceq_0 _ _ _) rfl 2 (Nat.le_of_ble_eq_true rfl) qf_X7_23 rfl dX7_restore_15 ?_
    refine lv_aload_n hx hb dX7_restore_18 rfl (lv_at hl 0 rfl) ?_
    refine rc_get (own := RX7) hx hb hts inC_7 hown hV hB 0 (c34 rfl hB) (ceq_0 _ _ _) rfl 3 (Nat.le_of_ble_eq_true rfl) qf_X7_27 rfl dX7_restore_19 ?_
    obtain ⟨r2, σ3, hkr2, hf⟩ := bd_e hf
    refine rc_callV (own := RX7) (av := [.ref (ad 18)]) (rest := []) (rv := none) hx hb hml hown hts hl.1 hV hB 5 (c34 rfl hB) (ceq_5 _ _ _) rfl (cc_X0_copyFrom_5_18 l D ad cy z n σ hkr2) (kwc_X7_285  hts ⟨Nat.le_of_ble_eq_true rfl, Nat.le_of_ble_eq_true rfl⟩) rfl rfl (lv_room (Nat.le_of_ble_eq_true rfl)) dX7_restore_22 (Nat.le_refl _) (Nat.le_refl _) (fun H locs hB => ?_)
    refine W.eq (g2 := F0 m 25 ls []) rfl ?_
    refine lv_aload_n hx hb dX7_restore_25 rfl (lv_at hl 0 rfl) ?_
    refine rc_get (own := RX7) hx hb hts inC_7 hown hV hB 0 (c34 rfl hB) (ceq_0 _ _ _) rfl 2 (Nat.le_of_ble_eq_true rfl) qf_X7_23 rfl dX7_restore_26 ?_
    refine rc_get (own := RX7) hx hb hts inC_0 hown hV hB 5 (c34 rfl hB) (ceq_5 _ _ _) rfl 8 (Nat.le_of_ble_eq_true rfl) qf_X7_55 rfl dX7_restore_29 ?_
    obtain ⟨rfl, rfl⟩ := so_e hf
    exact rc_iret hx hb hr hlocks hB dX7_restore_32
  · have hf := it_t hf c1
    refine lv_aload_n hx hb dX7_restore_7 rfl (lv_at hl 0 rfl) ?_
    refine lv_bipush (v := (-3)) hx hb dX7_restore_8 (by decide) ?_
    obtain ⟨r4, σ5, hkr4, hf⟩ := bd_e hf
    refine rc_callV (own := RX7) (av := [.int (-3)]) (rest := []) (rv := (some (.int r4))) hx hb hml hown hts hl.1 hV hB 0 (c34 rfl hB) (ceq_0 _ _ _) rfl (cc_X7_refuse l D ad cy z n σ (-3) hkr4) (kwc_X7_43  hts ⟨Nat.le_of_ble_eq_true rfl, Nat.le_of_ble_eq_true rfl⟩) rfl rfl (lv_room (Nat.le_of_ble_eq_true rfl)) dX7_restore_10 (Nat.le_refl _) (Nat.le_refl _) (fun H locs hB => ?_)
    refine W.eq (g2 := F0 m 13 ls [.int r4]) rfl ?_
    obtain ⟨rfl, rfl⟩ := so_e hf
    exact rc_iret hx hb hr hlocks hB dX7_restore_13
theorem cc_X7_restore (l : Launch) (D : va_G) (ad : Nat → Nat) (cy : CY) (z : CZ) (n : Nat) (σ : CS) {r0 : Int32} {σ0 : CS} (hf : fc_X7_restore n σ = some (r0, σ0)) : cM l yX7_restore wn_X7_restore rm_X7_restore D ad cy z [.ref (ad 0)] σ (some (.int r0)) σ0 :=
  rc_met (ret := (some .int)) (by decide) rfl (Nat.le_of_ble_eq_true rfl) (fun p e s m below meth c A ls hc hV hB hl => tbc_X7_restore_0 hc hV n σ hB hl hf)
/-! X7_refusedSoFar -/
abbrev rm_X7_refusedSoFar : Room := { frames := 0, cells := 0, slots := 0, locals := 0 }
abbrev wn_X7_refusedSoFar : List Cond := .code yX7_refusedSoFar cX7_refusedSoFar 2 (some .int) :: wsC
def fc_X7_refusedSoFar (n : Nat) (σ : CS) (x1 : Int32) : Option ((Int32) × CS) := if (x1 < 1) then (some ((-9), σ)) else (if ((Int32.ofNat 7) ≤ x1) then (some ((-9), σ)) else (ck (ib x1 7) (sq ((σ.1 4 (Int32.toNatClampNeg x1)) : Int32) (fun y4 => some (y4, σ)))))
set_option maxRecDepth 100000 in
set_option maxHeartbeats 4000000 in
theorem tbc_X7_refusedSoFar_0 {p : Program} {l : Launch} {e : Env} {s : State} {m : MethodId} {args : Array Value} {below : List Frame} {meth : Method} {c : Code} {D : va_G} {A : Nat → Prop} {ad : Nat → Nat} {cy : CY} {z : CZ} {r0 : Int32} {σ0 : CS} (hc : cxB RX7 wsC cX7_refusedSoFar 2 (some .int) p s m args meth c) (hV : cV D cy z A s) (n : Nat) (σ : CS) (x1 : Int32) {H : Heap} {locs : List Loc} {ls : Array Slot} (hB : cB D ad cy A s.heap σ H locs) (hl : lv_has ls 2 [(0, .ref (ad 0)), (1, .int x1)]) (hf : fc_X7_refusedSoFar n σ x1 = some (r0, σ0)) : W p l e rm_X7_refusedSoFar s m args below meth c H locs 0 0 (MQ below (cQ D ad cy A (some (.int r0)) σ0) args s 0 0 A) (F0 m 0 ls []) := by
  obtain ⟨hx, hb, hml, hown, hts, hr, hlocks⟩ := id hc
  unfold fc_X7_refusedSoFar at hf
  refine lv_iload_n hx hb dX7_refusedSoFar_0 rfl (lv_at hl 1 rfl) ?_
  refine lv_iconst (v := 1) hx hb dX7_refusedSoFar_1 (by decide) ?_
  refine lv_icmp_lt (tgt := 23) hx hb dX7_refusedSoFar_2 (by decide) (fun c1 => ?_) (fun c1 => ?_)
  · have hf := it_t hf c1
    refine lv_bipush (v := (-9)) hx hb dX7_refusedSoFar_23 (by decide) ?_
    obtain ⟨rfl, rfl⟩ := so_e hf
    exact rc_iret hx hb hr hlocks hB dX7_refusedSoFar_25
  · have hf := it_f hf c1
    refine lv_iload_n hx hb dX7_refusedSoFar_5 rfl (lv_at hl 1 rfl) ?_
    refine lv_aload_n hx hb dX7_refusedSoFar_6 rfl (lv_at hl 0 rfl) ?_
    refine rc_get (own := RX7) hx hb hts inC_7 hown hV hB 0 (c34 rfl hB) (ceq_0 _ _ _) rfl 1 (Nat.le_of_ble_eq_true rfl) qf_X7_16 rfl dX7_refusedSoFar_7 ?_
    refine rc_alen hx hb hV hB 4 (c34 rfl hB) (ceq_4 _ _ _) rfl dX7_refusedSoFar_10 ?_
    refine lv_icmp_ge (tgt := 23) hx hb dX7_refusedSoFar_11 (by decide) (fun c2 => ?_) (fun c2 => ?_)
    · have hf := it_t hf c2
      refine lv_bipush (v := (-9)) hx hb dX7_refusedSoFar_23 (by decide) ?_
      obtain ⟨rfl, rfl⟩ := so_e hf
      exact rc_iret hx hb hr hlocks hB dX7_refusedSoFar_25
    · have hf := it_f hf c2
      refine lv_aload_n hx hb dX7_refusedSoFar_14 rfl (lv_at hl 0 rfl) ?_
      refine rc_get (own := RX7) hx hb hts inC_7 hown hV hB 0 (c34 rfl hB) (ceq_0 _ _ _) rfl 1 (Nat.le_of_ble_eq_true rfl) qf_X7_16 rfl dX7_refusedSoFar_15 ?_
      refine lv_iload_n hx hb dX7_refusedSoFar_18 rfl (lv_at hl 1 rfl) ?_
      obtain ⟨k3, hf⟩ := ck_e hf
      refine rc_ald hx hb hV hB 4 (c34 rfl hB) (ceq_4 _ _ _) k3 dX7_refusedSoFar_19 ?_
      refine lv_topi (fun y4 ey4 => ?_)
      have hf := sq_e hf y4 ey4
      refine lv_goto (tgt := 25) hx hb dX7_refusedSoFar_20 (by decide) ?_
      obtain ⟨rfl, rfl⟩ := so_e hf
      exact rc_iret hx hb hr hlocks hB dX7_refusedSoFar_25
theorem cc_X7_refusedSoFar (l : Launch) (D : va_G) (ad : Nat → Nat) (cy : CY) (z : CZ) (n : Nat) (σ : CS) (x1 : Int32) {r0 : Int32} {σ0 : CS} (hf : fc_X7_refusedSoFar n σ x1 = some (r0, σ0)) : cM l yX7_refusedSoFar wn_X7_refusedSoFar rm_X7_refusedSoFar D ad cy z [.ref (ad 0), .int x1] σ (some (.int r0)) σ0 :=
  rc_met (ret := (some .int)) (by decide) rfl (Nat.le_of_ble_eq_true rfl) (fun p e s m below meth c A ls hc hV hB hl => tbc_X7_refusedSoFar_0 hc hV n σ x1 hB hl hf)
/-! X7_count -/
theorem kwc_X7_288 {R : Room} {s : State} {args : Array Value} (hts : ∀ w ∈ wsC, w.before args s = true) (hR : rm_X7_refusedSoFar.frames + 1 ≤ R.frames ∧ 8 + (2 + 11) + rm_X7_refusedSoFar.locals ≤ R.locals) : CallW R s args RX7 RX7 288 yX7_refusedSoFar cX7_refusedSoFar 2 (some .int) wn_X7_refusedSoFar rm_X7_refusedSoFar 0 0 1 := cwV 1 hts (gC_v qc_556 qc_557 qc_558 qc_85 qc_555) rfl rfl rfl (by decide +kernel) hR
abbrev rm_X7_count : Room := { frames := 3, cells := 0, slots := 0, locals := 64 }
abbrev wn_X7_count : List Cond := .code yX7_count cX7_count 2 (some .int) :: wsC
def fc_X7_count (n : Nat) (σ : CS) (x1 : Int32) : Option ((Int32) × CS) := if (x1 = 0) then (some ((σ.1 5 8), σ)) else (if (x1 = 1) then (some ((σ.1 5 9), σ)) else (if (x1 = 2) then (some ((σ.1 16 1), σ)) else (if (x1 = 3) then (bd (fc_X4_heardOnes n σ) (fun r11 σ12 => some (r11, σ12))) else (if (x1 = 4) then (some ((σ.1 5 10), σ)) else (if (x1 = 5) then (some ((σ.1 1 2), σ)) else (if (x1 = 6) then (if ((σ.1 5 11) = 0) then (some (0, σ)) else (some (1, σ))) else (bd (fc_X7_refusedSoFar n σ (x1 - 10)) (fun r1 σ2 => some (r1, σ2)))))))))
set_option maxRecDepth 100000 in
set_option maxHeartbeats 4000000 in
theorem tbc_X7_count_0 {p : Program} {l : Launch} {e : Env} {s : State} {m : MethodId} {args : Array Value} {below : List Frame} {meth : Method} {c : Code} {D : va_G} {A : Nat → Prop} {ad : Nat → Nat} {cy : CY} {z : CZ} {r0 : Int32} {σ0 : CS} (hc : cxB RX7 wsC cX7_count 2 (some .int) p s m args meth c) (hV : cV D cy z A s) (n : Nat) (σ : CS) (x1 : Int32) {H : Heap} {locs : List Loc} {ls : Array Slot} (hB : cB D ad cy A s.heap σ H locs) (hl : lv_has ls 2 [(0, .ref (ad 0)), (1, .int x1)]) (hf : fc_X7_count n σ x1 = some (r0, σ0)) : W p l e rm_X7_count s m args below meth c H locs 0 0 (MQ below (cQ D ad cy A (some (.int r0)) σ0) args s 0 0 A) (F0 m 0 ls []) := by
  obtain ⟨hx, hb, hml, hown, hts, hr, hlocks⟩ := id hc
  unfold fc_X7_count at hf
  refine lv_iload_n hx hb dX7_count_0 rfl (lv_at hl 1 rfl) ?_
  by_cases c3 : x1 = 0
  · have hf := it_t hf c3
    refine lv_tableIn (tgt := 44) hx hb dX7_count_1 (by rw [c3]; decide) (by rw [c3]; decide) (by rw [c3]; rfl) (by decide) ?_
    refine lv_aload_n hx hb dX7_count_44 rfl (lv_at hl 0 rfl) ?_
    refine rc_get (own := RX7) hx hb hts inC_7 hown hV hB 0 (c34 rfl hB) (ceq_0 _ _ _) rfl 2 (Nat.le_of_ble_eq_true rfl) qf_X7_23 rfl dX7_count_45 ?_
    refine rc_get (own := RX7) hx hb hts inC_0 hown hV hB 5 (c34 rfl hB) (ceq_5 _ _ _) rfl 8 (Nat.le_of_ble_eq_true rfl) qf_X7_55 rfl dX7_count_48 ?_
    obtain ⟨rfl, rfl⟩ := so_e hf
    exact rc_iret hx hb hr hlocks hB dX7_count_51
  · have hf := it_f hf c3
    by_cases c4 : x1 = 1
    · have hf := it_t hf c4
      refine lv_tableIn (tgt := 52) hx hb dX7_count_1 (by rw [c4]; decide) (by rw [c4]; decide) (by rw [c4]; rfl) (by decide) ?_
      refine lv_aload_n hx hb dX7_count_52 rfl (lv_at hl 0 rfl) ?_
      refine rc_get (own := RX7) hx hb hts inC_7 hown hV hB 0 (c34 rfl hB) (ceq_0 _ _ _) rfl 2 (Nat.le_of_ble_eq_true rfl) qf_X7_23 rfl dX7_count_53 ?_
      refine rc_get (own := RX7) hx hb hts inC_0 hown hV hB 5 (c34 rfl hB) (ceq_5 _ _ _) rfl 9 (Nat.le_of_ble_eq_true rfl) qf_X7_90 rfl dX7_count_56 ?_
      obtain ⟨rfl, rfl⟩ := so_e hf
      exact rc_iret hx hb hr hlocks hB dX7_count_59
    · have hf := it_f hf c4
      by_cases c5 : x1 = 2
      · have hf := it_t hf c5
        refine lv_tableIn (tgt := 60) hx hb dX7_count_1 (by rw [c5]; decide) (by rw [c5]; decide) (by rw [c5]; rfl) (by decide) ?_
        refine lv_aload_n hx hb dX7_count_60 rfl (lv_at hl 0 rfl) ?_
        refine rc_get (own := RX7) hx hb hts inC_7 hown hV hB 0 (c34 rfl hB) (ceq_0 _ _ _) rfl 2 (Nat.le_of_ble_eq_true rfl) qf_X7_23 rfl dX7_count_61 ?_
        refine rc_get (own := RX7) hx hb hts inC_0 hown hV hB 5 (c34 rfl hB) (ceq_5 _ _ _) rfl 7 (Nat.le_of_ble_eq_true rfl) qf_X7_219 rfl dX7_count_64 ?_
        refine rc_get (own := RX7) hx hb hts inC_4 hown hV hB 16 (c34 rfl hB) (ceq_16 _ _ _) rfl 1 (Nat.le_of_ble_eq_true rfl) qf_X7_223 rfl dX7_count_67 ?_
        obtain ⟨rfl, rfl⟩ := so_e hf
        exact rc_iret hx hb hr hlocks hB dX7_count_70
      · have hf := it_f hf c5
        by_cases c6 : x1 = 3
        · have hf := it_t hf c6
          refine lv_tableIn (tgt := 71) hx hb dX7_count_1 (by rw [c6]; decide) (by rw [c6]; decide) (by rw [c6]; rfl) (by decide) ?_
          refine lv_aload_n hx hb dX7_count_71 rfl (lv_at hl 0 rfl) ?_
          refine rc_get (own := RX7) hx hb hts inC_7 hown hV hB 0 (c34 rfl hB) (ceq_0 _ _ _) rfl 2 (Nat.le_of_ble_eq_true rfl) qf_X7_23 rfl dX7_count_72 ?_
          refine rc_get (own := RX7) hx hb hts inC_0 hown hV hB 5 (c34 rfl hB) (ceq_5 _ _ _) rfl 7 (Nat.le_of_ble_eq_true rfl) qf_X7_219 rfl dX7_count_75 ?_
          obtain ⟨r11, σ12, hkr11, hf⟩ := bd_e hf
          refine rc_callV (own := RX7) (av := []) (rest := []) (rv := (some (.int r11))) hx hb hml hown hts hl.1 hV hB 16 (c34 rfl hB) (ceq_16 _ _ _) rfl (cc_X4_heardOnes l D ad cy z n σ hkr11) (kwc_X7_260  hts ⟨Nat.le_of_ble_eq_true rfl, Nat.le_of_ble_eq_true rfl⟩) rfl rfl (lv_room (Nat.le_of_ble_eq_true rfl)) dX7_count_78 (Nat.le_refl _) (Nat.le_refl _) (fun H locs hB => ?_)
          refine W.eq (g2 := F0 m 81 ls [.int r11]) rfl ?_
          obtain ⟨rfl, rfl⟩ := so_e hf
          exact rc_iret hx hb hr hlocks hB dX7_count_81
        · have hf := it_f hf c6
          by_cases c7 : x1 = 4
          · have hf := it_t hf c7
            refine lv_tableIn (tgt := 82) hx hb dX7_count_1 (by rw [c7]; decide) (by rw [c7]; decide) (by rw [c7]; rfl) (by decide) ?_
            refine lv_aload_n hx hb dX7_count_82 rfl (lv_at hl 0 rfl) ?_
            refine rc_get (own := RX7) hx hb hts inC_7 hown hV hB 0 (c34 rfl hB) (ceq_0 _ _ _) rfl 2 (Nat.le_of_ble_eq_true rfl) qf_X7_23 rfl dX7_count_83 ?_
            refine rc_get (own := RX7) hx hb hts inC_0 hown hV hB 5 (c34 rfl hB) (ceq_5 _ _ _) rfl 10 (Nat.le_of_ble_eq_true rfl) qf_X7_273 rfl dX7_count_86 ?_
            obtain ⟨rfl, rfl⟩ := so_e hf
            exact rc_iret hx hb hr hlocks hB dX7_count_89
          · have hf := it_f hf c7
            by_cases c8 : x1 = 5
            · have hf := it_t hf c8
              refine lv_tableIn (tgt := 90) hx hb dX7_count_1 (by rw [c8]; decide) (by rw [c8]; decide) (by rw [c8]; rfl) (by decide) ?_
              refine lv_aload_n hx hb dX7_count_90 rfl (lv_at hl 0 rfl) ?_
              refine rc_get (own := RX7) hx hb hts inC_7 hown hV hB 0 (c34 rfl hB) (ceq_0 _ _ _) rfl 0 (Nat.le_of_ble_eq_true rfl) qf_X7_10 rfl dX7_count_91 ?_
              refine rc_get (own := RX7) hx hb hts inC_6 hown hV hB 1 (c34 rfl hB) (ceq_1 _ _ _) rfl 2 (Nat.le_of_ble_eq_true rfl) qf_X7_47 rfl dX7_count_94 ?_
              obtain ⟨rfl, rfl⟩ := so_e hf
              exact rc_iret hx hb hr hlocks hB dX7_count_97
            · have hf := it_f hf c8
              by_cases c9 : x1 = 6
              · have hf := it_t hf c9
                refine lv_tableIn (tgt := 98) hx hb dX7_count_1 (by rw [c9]; decide) (by rw [c9]; decide) (by rw [c9]; rfl) (by decide) ?_
                refine lv_aload_n hx hb dX7_count_98 rfl (lv_at hl 0 rfl) ?_
                refine rc_get (own := RX7) hx hb hts inC_7 hown hV hB 0 (c34 rfl hB) (ceq_0 _ _ _) rfl 2 (Nat.le_of_ble_eq_true rfl) qf_X7_23 rfl dX7_count_99 ?_
                refine rc_get (own := RX7) hx hb hts inC_0 hown hV hB 5 (c34 rfl hB) (ceq_5 _ _ _) rfl 11 (Nat.le_of_ble_eq_true rfl) qf_X7_141 rfl dX7_count_102 ?_
                refine lv_if_eq (tgt := 112) hx hb dX7_count_105 (by decide) (fun c10 => ?_) (fun c10 => ?_)
                · have hf := it_t hf c10
                  refine lv_iconst (v := 0) hx hb dX7_count_112 (by decide) ?_
                  obtain ⟨rfl, rfl⟩ := so_e hf
                  exact rc_iret hx hb hr hlocks hB dX7_count_113
                · have hf := it_f hf c10
                  refine lv_iconst (v := 1) hx hb dX7_count_108 (by decide) ?_
                  refine lv_goto (tgt := 113) hx hb dX7_count_109 (by decide) ?_
                  obtain ⟨rfl, rfl⟩ := so_e hf
                  exact rc_iret hx hb hr hlocks hB dX7_count_113
              · have hf := it_f hf c9
                refine sw_d (tgt := 114) hx hb dX7_count_1 (by have n_0 := lv_neT c3 (a := 0) (by decide); have n_1 := lv_neT c4 (a := 1) (by decide); have n_2 := lv_neT c5 (a := 2) (by decide); have n_3 := lv_neT c6 (a := 3) (by decide); have n_4 := lv_neT c7 (a := 4) (by decide); have n_5 := lv_neT c8 (a := 5) (by decide); have n_6 := lv_neT c9 (a := 6) (by decide); rcases (show (x1).toInt < 0 ∨ 6 < (x1).toInt by omega) with q | q; exact Or.inl q; exact Or.inr (Or.inl q)) (by decide) ?_
                refine lv_aload_n hx hb dX7_count_114 rfl (lv_at hl 0 rfl) ?_
                refine lv_iload_n hx hb dX7_count_115 rfl (lv_at hl 1 rfl) ?_
                refine lv_bipush (v := 10) hx hb dX7_count_116 (by decide) ?_
                refine lv_isub hx hb dX7_count_118 ?_
                obtain ⟨r1, σ2, hkr1, hf⟩ := bd_e hf
                refine rc_callV (own := RX7) (av := [.int (x1 - 10)]) (rest := []) (rv := (some (.int r1))) hx hb hml hown hts hl.1 hV hB 0 (c34 rfl hB) (ceq_0 _ _ _) rfl (cc_X7_refusedSoFar l D ad cy z n σ (x1 - 10) hkr1) (kwc_X7_288  hts ⟨Nat.le_of_ble_eq_true rfl, Nat.le_of_ble_eq_true rfl⟩) rfl rfl (lv_room (Nat.le_of_ble_eq_true rfl)) dX7_count_119 (Nat.le_refl _) (Nat.le_refl _) (fun H locs hB => ?_)
                refine W.eq (g2 := F0 m 122 ls [.int r1]) rfl ?_
                obtain ⟨rfl, rfl⟩ := so_e hf
                exact rc_iret hx hb hr hlocks hB dX7_count_122
theorem cc_X7_count (l : Launch) (D : va_G) (ad : Nat → Nat) (cy : CY) (z : CZ) (n : Nat) (σ : CS) (x1 : Int32) {r0 : Int32} {σ0 : CS} (hf : fc_X7_count n σ x1 = some (r0, σ0)) : cM l yX7_count wn_X7_count rm_X7_count D ad cy z [.ref (ad 0), .int x1] σ (some (.int r0)) σ0 :=
  rc_met (ret := (some .int)) (by decide) rfl (Nat.le_of_ble_eq_true rfl) (fun p e s m below meth c A ls hc hV hB hl => tbc_X7_count_0 hc hV n σ x1 hB hl hf)
