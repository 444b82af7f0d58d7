/-! X2_runTo -/
theorem kwc_X2_96 {R : Room} {s : State} {args : Array Value} (hts : ∀ w ∈ wsC, w.before args s = true) (hR : rm_X2_advance.frames + 1 ≤ R.frames ∧ 8 + (6 + 11) + rm_X2_advance.locals ≤ R.locals) : CallW R s args RX2 RX2 96 yX2_advance cX2_advance 6 none wn_X2_advance rm_X2_advance 0 0 0 := cwV 0 hts (gC_v qc_135 qc_136 qc_137 qc_108 qc_134) rfl rfl rfl (by decide +kernel) hR
abbrev rm_X2_runTo : Room := { frames := 4, cells := 0, slots := 0, locals := 133 }
abbrev wn_X2_runTo : List Cond := .code yX2_runTo cX2_runTo 3 none :: wsC
def bc_X2_runTo_2 (n : Nat) (K2 : CS → Int32 → Int32 → Option ((Int32) × CS)) (σ : CS) (x1 : Int32) (x2 : Int32) : Option ((Int32) × CS) := if (9999 ≤ x2) then (some (0, σ)) else (if (x1 ≤ (σ.1 31 5)) then (some (0, σ)) else (if ((σ.1 31 6) = 0) then (bd (fc_X2_advance n σ) (fun _ σ5 => sq (x2 + 1 : Int32) (fun y6 => K2 σ5 x1 y6))) else (some (0, σ))))
set_option maxRecDepth 100000 in
set_option maxHeartbeats 4000000 in
theorem tbc_X2_runTo_2 {p : Program} {l : Launch} {e : Env} {s : State} {m : MethodId} {args : Array Value} {below : List Frame} {meth : Method} {c : Code} {D : va_G} {A : Nat → Prop} {ad : Nat → Nat} {cy : CY} {z : CZ} {r0 : Int32} {σ0 : CS} (hc : cxB RX2 wsC cX2_runTo 3 none p s m args meth c) (hV : cV D cy z A s) (n : Nat) (K2 : CS → Int32 → Int32 → Option ((Int32) × CS)) (hK2 : ∀ (σ : CS) (x1 : Int32) (x2 : Int32) (H : Heap) (locs : List Loc) (ls : Array Slot), cB D ad cy A s.heap σ H locs → lv_has ls 3 [(0, .ref (ad 31)), (1, .int x1), (2, .int x2)] → K2 σ x1 x2 = some (r0, σ0) → W p l e rm_X2_runTo s m args below meth c H locs 0 0 (MQ below (cQ D ad cy A none σ0) args s 0 0 A) (F0 m 2 ls [])) (σ : CS) (x1 : Int32) (x2 : Int32) {H : Heap} {locs : List Loc} {ls : Array Slot} (hB : cB D ad cy A s.heap σ H locs) (hl : lv_has ls 3 [(0, .ref (ad 31)), (1, .int x1), (2, .int x2)]) (hf : bc_X2_runTo_2 n K2 σ x1 x2 = some (r0, σ0)) : W p l e rm_X2_runTo s m args below meth c H locs 0 0 (MQ below (cQ D ad cy A none σ0) args s 0 0 A) (F0 m 2 ls []) := by
  obtain ⟨hx, hb, hml, hown, hts, hr, hlocks⟩ := id hc
  unfold bc_X2_runTo_2 at hf
  refine lv_iload_n hx hb dX2_runTo_2 rfl (lv_at hl 2 rfl) ?_
  refine lv_sipush (v := 9999) hx hb dX2_runTo_3 (by decide) ?_
  refine lv_icmp_ge (tgt := 34) hx hb dX2_runTo_6 (by decide) (fun c1 => ?_) (fun c1 => ?_)
  · have hf := it_t hf c1
    obtain ⟨rfl, rfl⟩ := so_e hf
    exact rc_vret hx hb hr hlocks hB dX2_runTo_34
  · have hf := it_f hf c1
    refine lv_aload_n hx hb dX2_runTo_9 rfl (lv_at hl 0 rfl) ?_
    refine rc_get (own := RX2) hx hb hts inC_2 hown hV hB 31 (c34 rfl hB) (ceq_31 _ _ _) rfl 5 (Nat.le_of_ble_eq_true rfl) qf_X2_48 rfl dX2_runTo_10 ?_
    refine lv_iload_n hx hb dX2_runTo_13 rfl (lv_at hl 1 rfl) ?_
    refine lv_icmp_ge (tgt := 34) hx hb dX2_runTo_14 (by decide) (fun c2 => ?_) (fun c2 => ?_)
    · have hf := it_t hf c2
      obtain ⟨rfl, rfl⟩ := so_e hf
      exact rc_vret hx hb hr hlocks hB dX2_runTo_34
    · have hf := it_f hf c2
      refine lv_aload_n hx hb dX2_runTo_17 rfl (lv_at hl 0 rfl) ?_
      refine rc_get (own := RX2) hx hb hts inC_2 hown hV hB 31 (c34 rfl hB) (ceq_31 _ _ _) rfl 6 (Nat.le_of_ble_eq_true rfl) qf_X2_51 rfl dX2_runTo_18 ?_
      refine lv_if_ne (tgt := 34) hx hb dX2_runTo_21 (by decide) (fun c3 => ?_) (fun c3 => ?_)
      · have hf := it_f hf c3
        obtain ⟨rfl, rfl⟩ := so_e hf
        exact rc_vret hx hb hr hlocks hB dX2_runTo_34
      · have hf := it_t hf c3
        refine lv_aload_n hx hb dX2_runTo_24 rfl (lv_at hl 0 rfl) ?_
        obtain ⟨r4, σ5, hkr4, hf⟩ := bd_e hf
        refine rc_callV (own := RX2) (av := []) (rest := []) (rv := none) hx hb hml hown hts hl.1 hV hB 31 (c34 rfl hB) (ceq_31 _ _ _) rfl (cc_X2_advance l D ad cy z n σ hkr4) (kwc_X2_96  hts ⟨Nat.le_of_ble_eq_true rfl, Nat.le_of_ble_eq_true rfl⟩) rfl rfl (lv_room (Nat.le_of_ble_eq_true rfl)) dX2_runTo_25 (Nat.le_refl _) (Nat.le_refl _) (fun H locs hB => ?_)
        refine W.eq (g2 := F0 m 28 ls []) rfl ?_
        obtain ⟨y6, ey6⟩ : ∃ z : Int32, z = x2 + 1 := ⟨_, rfl⟩
        have hf := sq_e hf y6 ey6
        refine lv_iinc (v := y6) (lv' := [(2, .int y6), (0, .ref (ad 31)), (1, .int x1)]) hx hb dX2_runTo_28 hl (k := 2) rfl (by rw [ey6]; rfl) (by decide) rfl (fun ls hl => ?_)
        refine lv_goto (tgt := 2) hx hb dX2_runTo_31 (by decide) ?_
        exact hK2 σ5 x1 y6 _ _ _ hB (lv_sub hl [1, 2, 0] rfl) hf
def lc_X2_runTo_2 (n : Nat) : Nat → CS → Int32 → Int32 → Option ((Int32) × CS)
  | 0 => fun _ _ _ => none
  | k + 1 => bc_X2_runTo_2 n (lc_X2_runTo_2 n k)
theorem tlc_X2_runTo_2 {p : Program} {l : Launch} {e : Env} {s : State} {m : MethodId} {args : Array Value} {below : List Frame} {meth : Method} {c : Code} {D : va_G} {A : Nat → Prop} {ad : Nat → Nat} {cy : CY} {z : CZ} {r0 : Int32} {σ0 : CS} (hc : cxB RX2 wsC cX2_runTo 3 none p s m args meth c) (hV : cV D cy z A s) (n : Nat) : ∀ (k : Nat) (σ : CS) (x1 : Int32) (x2 : Int32) (H : Heap) (locs : List Loc) (ls : Array Slot), cB D ad cy A s.heap σ H locs → lv_has ls 3 [(0, .ref (ad 31)), (1, .int x1), (2, .int x2)] → lc_X2_runTo_2 n k σ x1 x2 = some (r0, σ0) → W p l e rm_X2_runTo s m args below meth c H locs 0 0 (MQ below (cQ D ad cy A none σ0) args s 0 0 A) (F0 m 2 ls []) := by
  intro k
  induction k with
  | zero =>
    intro σ x1 x2 H locs ls hB hl hf
    have hf : (none : Option ((Int32) × CS)) = some (r0, σ0) := hf
    cases hf
  | succ k ih =>
    intro σ x1 x2 H locs ls hB hl hf
    exact tbc_X2_runTo_2 hc hV n (lc_X2_runTo_2 n k) ih σ x1 x2 hB hl hf
def fc_X2_runTo (n : Nat) (σ : CS) (x1 : Int32) : Option ((Int32) × CS) := sq (0 : Int32) (fun y1 => lc_X2_runTo_2 n n σ x1 y1)
set_option maxRecDepth 100000 in
set_option maxHeartbeats 4000000 in
theorem tbc_X2_runTo_0 {p : Program} {l : Launch} {e : Env} {s : State} {m : MethodId} {args : Array Value} {below : List Frame} {meth : Method} {c : Code} {D : va_G} {A : Nat → Prop} {ad : Nat → Nat} {cy : CY} {z : CZ} {r0 : Int32} {σ0 : CS} (hc : cxB RX2 wsC cX2_runTo 3 none p s m args meth c) (hV : cV D cy z A s) (n : Nat) (σ : CS) (x1 : Int32) {H : Heap} {locs : List Loc} {ls : Array Slot} (hB : cB D ad cy A s.heap σ H locs) (hl : lv_has ls 3 [(0, .ref (ad 31)), (1, .int x1)]) (hf : fc_X2_runTo n σ x1 = some (r0, σ0)) : W p l e rm_X2_runTo s m args below meth c H locs 0 0 (MQ below (cQ D ad cy A none σ0) args s 0 0 A) (F0 m 0 ls []) := by
  obtain ⟨hx, hb, hml, hown, hts, hr, hlocks⟩ := id hc
  unfold fc_X2_runTo at hf
  refine lv_iconst (v := 0) hx hb dX2_runTo_0 (by decide) ?_
  refine lv_topi (fun y1 ey1 => ?_)
  have hf := sq_e hf y1 ey1
  refine lv_istore_n (lv' := [(2, .int y1), (0, .ref (ad 31)), (1, .int x1)]) hx hb dX2_runTo_1 rfl hl (by decide) rfl (fun ls hl => ?_)
  exact tlc_X2_runTo_2 hc hV n n σ x1 y1 _ _ _ hB (lv_sub hl [1, 2, 0] rfl) hf
theorem cc_X2_runTo (l : Launch) (D : va_G) (ad : Nat → Nat) (cy : CY) (z : CZ) (n : Nat) (σ : CS) (x1 : Int32) {r0 : Int32} {σ0 : CS} (hf : fc_X2_runTo n σ x1 = some (r0, σ0)) : cM l yX2_runTo wn_X2_runTo rm_X2_runTo D ad cy z [.ref (ad 31), .int x1] σ none σ0 :=
  rc_met (ret := none) (by decide) rfl (Nat.le_of_ble_eq_true rfl) (fun p e s m below meth c A ls hc hV hB hl => tbc_X2_runTo_0 hc hV n σ x1 hB hl hf)
/-! X2_ruler -/
abbrev rm_X2_ruler : Room := { frames := 0, cells := 0, slots := 0, locals := 0 }
abbrev wn_X2_ruler : List Cond := .code yX2_ruler cX2_ruler 4 (some .int) :: wsC
def bc_X2_ruler_7 (n : Nat) (K7 : CS → Int32 → Int32 → Int32 → Option ((Int32) × CS)) (σ : CS) (x1 : Int32) (x2 : Int32) (x3 : Int32) : Option ((Int32) × CS) := if (8 ≤ x3) then (some (x1, σ)) else (ck (ib x3 8) (sq ((σ.1 33 (Int32.toNatClampNeg x3)) : Int32) (fun y3 => if (y3 ≤ x2) then (sq (x3 + 1 : Int32) (fun y5 => K7 σ x1 x2 y5)) else (ck (ib x3 8) (sq ((σ.1 33 (Int32.toNatClampNeg x3)) : Int32) (fun y7 => sq (x3 + 1 : Int32) (fun y8 => K7 σ x3 y7 y8)))))))
set_option maxRecDepth 100000 in
set_option maxHeartbeats 4000000 in
theorem tbc_X2_ruler_7 {p : Program} {l : Launch} {e : Env} {s : State} {m : MethodId} {args : Array Value} {below : List Frame} {meth : Method} {c : Code} {D : va_G} {A : Nat → Prop} {ad : Nat → Nat} {cy : CY} {z : CZ} {r0 : Int32} {σ0 : CS} (hc : cxB RX2 wsC cX2_ruler 4 (some .int) p s m args meth c) (hV : cV D cy z A s) (n : Nat) (K7 : CS → Int32 → Int32 → Int32 → Option ((Int32) × CS)) (hK7 : ∀ (σ : CS) (x1 : Int32) (x2 : Int32) (x3 : Int32) (H : Heap) (locs : List Loc) (ls : Array Slot), cB D ad cy A s.heap σ H locs → lv_has ls 4 [(0, .ref (ad 31)), (1, .int x1), (2, .int x2), (3, .int x3)] → K7 σ x1 x2 x3 = some (r0, σ0) → W p l e rm_X2_ruler s m args below meth c H locs 0 0 (MQ below (cQ D ad cy A (some (.int r0)) σ0) args s 0 0 A) (F0 m 7 ls [])) (σ : CS) (x1 : Int32) (x2 : Int32) (x3 : Int32) {H : Heap} {locs : List Loc} {ls : Array Slot} (hB : cB D ad cy A s.heap σ H locs) (hl : lv_has ls 4 [(0, .ref (ad 31)), (1, .int x1), (2, .int x2), (3, .int x3)]) (hf : bc_X2_ruler_7 n K7 σ x1 x2 x3 = some (r0, σ0)) : W p l e rm_X2_ruler s m args below meth c H locs 0 0 (MQ below (cQ D ad cy A (some (.int r0)) σ0) args s 0 0 A) (F0 m 7 ls []) := by
  obtain ⟨hx, hb, hml, hown, hts, hr, hlocks⟩ := id hc
  unfold bc_X2_ruler_7 at hf
  refine lv_iload_n hx hb dX2_ruler_7 rfl (lv_at hl 3 rfl) ?_
  refine lv_bipush (v := 8) hx hb dX2_ruler_8 (by decide) ?_
  refine lv_icmp_ge (tgt := 38) hx hb dX2_ruler_10 (by decide) (fun c1 => ?_) (fun c1 => ?_)
  · have hf := it_t hf c1
    refine lv_iload_n hx hb dX2_ruler_38 rfl (lv_at hl 1 rfl) ?_
    obtain ⟨rfl, rfl⟩ := so_e hf
    exact rc_iret hx hb hr hlocks hB dX2_ruler_39
  · have hf := it_f hf c1
    refine lv_aload_n hx hb dX2_ruler_13 rfl (lv_at hl 0 rfl) ?_
    refine rc_get (own := RX2) hx hb hts inC_2 hown hV hB 31 (c34 rfl hB) (ceq_31 _ _ _) rfl 2 (Nat.le_of_ble_eq_true rfl) qf_X2_15 rfl dX2_ruler_14 ?_
    refine lv_iload_n hx hb dX2_ruler_17 rfl (lv_at hl 3 rfl) ?_
    obtain ⟨k2, hf⟩ := ck_e hf
    refine rc_ald hx hb hV hB 33 (c34 rfl hB) (ceq_33 _ _ _) k2 dX2_ruler_18 ?_
    refine lv_topi (fun y3 ey3 => ?_)
    have hf := sq_e hf y3 ey3
    refine lv_iload_n hx hb dX2_ruler_19 rfl (lv_at hl 2 rfl) ?_
    refine lv_icmp_le (tgt := 32) hx hb dX2_ruler_20 (by decide) (fun c4 => ?_) (fun c4 => ?_)
    · have hf := it_t hf c4
      obtain ⟨y5, ey5⟩ : ∃ z : Int32, z = x3 + 1 := ⟨_, rfl⟩
      have hf := sq_e hf y5 ey5
      refine lv_iinc (v := y5) (lv' := [(3, .int y5), (0, .ref (ad 31)), (1, .int x1), (2, .int x2)]) hx hb dX2_ruler_32 hl (k := 3) rfl (by rw [ey5]; rfl) (by decide) rfl (fun ls hl => ?_)
      refine lv_goto (tgt := 7) hx hb dX2_ruler_35 (by decide) ?_
      exact hK7 σ x1 x2 y5 _ _ _ hB (lv_sub hl [1, 2, 3, 0] rfl) hf
    · have hf := it_f hf c4
      refine lv_aload_n hx hb dX2_ruler_23 rfl (lv_at hl 0 rfl) ?_
      refine rc_get (own := RX2) hx hb hts inC_2 hown hV hB 31 (c34 rfl hB) (ceq_31 _ _ _) rfl 2 (Nat.le_of_ble_eq_true rfl) qf_X2_15 rfl dX2_ruler_24 ?_
      refine lv_iload_n hx hb dX2_ruler_27 rfl (lv_at hl 3 rfl) ?_
      obtain ⟨k6, hf⟩ := ck_e hf
      refine rc_ald hx hb hV hB 33 (c34 rfl hB) (ceq_33 _ _ _) k6 dX2_ruler_28 ?_
      refine lv_topi (fun y7 ey7 => ?_)
      have hf := sq_e hf y7 ey7
      refine lv_istore_n (lv' := [(2, .int y7), (0, .ref (ad 31)), (1, .int x1), (3, .int x3)]) hx hb dX2_ruler_29 rfl hl (by decide) rfl (fun ls hl => ?_)
      refine lv_iload_n hx hb dX2_ruler_30 rfl (lv_at hl 3 rfl) ?_
      refine lv_istore_n (lv' := [(1, .int x3), (2, .int y7), (0, .ref (ad 31)), (3, .int x3)]) hx hb dX2_ruler_31 rfl hl (by decide) rfl (fun ls hl => ?_)
      obtain ⟨y8, ey8⟩ : ∃ z : Int32, z = x3 + 1 := ⟨_, rfl⟩
      have hf := sq_e hf y8 ey8
      refine lv_iinc (v := y8) (lv' := [(3, .int y8), (1, .int x3), (2, .int y7), (0, .ref (ad 31))]) hx hb dX2_ruler_32 hl (k := 3) rfl (by rw [ey8]; rfl) (by decide) rfl (fun ls hl => ?_)
      refine lv_goto (tgt := 7) hx hb dX2_ruler_35 (by decide) ?_
      exact hK7 σ x3 y7 y8 _ _ _ hB (lv_sub hl [3, 1, 2, 0] rfl) hf
def lc_X2_ruler_7 (n : Nat) : Nat → CS → Int32 → Int32 → Int32 → Option ((Int32) × CS)
  | 0 => fun _ _ _ _ => none
  | k + 1 => bc_X2_ruler_7 n (lc_X2_ruler_7 n k)
theorem tlc_X2_ruler_7 {p : Program} {l : Launch} {e : Env} {s : State} {m : MethodId} {args : Array Value} {below : List Frame} {meth : Method} {c : Code} {D : va_G} {A : Nat → Prop} {ad : Nat → Nat} {cy : CY} {z : CZ} {r0 : Int32} {σ0 : CS} (hc : cxB RX2 wsC cX2_ruler 4 (some .int) p s m args meth c) (hV : cV D cy z A s) (n : Nat) : ∀ (k : Nat) (σ : CS) (x1 : Int32) (x2 : Int32) (x3 : Int32) (H : Heap) (locs : List Loc) (ls : Array Slot), cB D ad cy A s.heap σ H locs → lv_has ls 4 [(0, .ref (ad 31)), (1, .int x1), (2, .int x2), (3, .int x3)] → lc_X2_ruler_7 n k σ x1 x2 x3 = some (r0, σ0) → W p l e rm_X2_ruler s m args below meth c H locs 0 0 (MQ below (cQ D ad cy A (some (.int r0)) σ0) args s 0 0 A) (F0 m 7 ls []) := by
  intro k
  induction k with
  | zero =>
    intro σ x1 x2 x3 H locs ls hB hl hf
    have hf : (none : Option ((Int32) × CS)) = some (r0, σ0) := hf
    cases hf
  | succ k ih =>
    intro σ x1 x2 x3 H locs ls hB hl hf
    exact tbc_X2_ruler_7 hc hV n (lc_X2_ruler_7 n k) ih σ x1 x2 x3 hB hl hf
def fc_X2_ruler (n : Nat) (σ : CS) : Option ((Int32) × CS) := sq ((-9) : Int32) (fun y1 => sq (0 : Int32) (fun y2 => sq (0 : Int32) (fun y3 => lc_X2_ruler_7 n n σ y1 y2 y3)))
set_option maxRecDepth 100000 in
set_option maxHeartbeats 4000000 in
theorem tbc_X2_ruler_0 {p : Program} {l : Launch} {e : Env} {s : State} {m : MethodId} {args : Array Value} {below : List Frame} {meth : Method} {c : Code} {D : va_G} {A : Nat → Prop} {ad : Nat → Nat} {cy : CY} {z : CZ} {r0 : Int32} {σ0 : CS} (hc : cxB RX2 wsC cX2_ruler 4 (some .int) p s m args meth c) (hV : cV D cy z A s) (n : Nat) (σ : CS) {H : Heap} {locs : List Loc} {ls : Array Slot} (hB : cB D ad cy A s.heap σ H locs) (hl : lv_has ls 4 [(0, .ref (ad 31))]) (hf : fc_X2_ruler n σ = some (r0, σ0)) : W p l e rm_X2_ruler s m args below meth c H locs 0 0 (MQ below (cQ D ad cy A (some (.int r0)) σ0) args s 0 0 A) (F0 m 0 ls []) := by
  obtain ⟨hx, hb, hml, hown, hts, hr, hlocks⟩ := id hc
  unfold fc_X2_ruler at hf
  refine lv_bipush (v := (-9)) hx hb dX2_ruler_0 (by decide) ?_
  refine lv_topi (fun y1 ey1 => ?_)
  have hf := sq_e hf y1 ey1
  refine lv_istore_n (lv' := [(1, .int y1), (0, .ref (ad 31))]) hx hb dX2_ruler_2 rfl hl (by decide) rfl (fun ls hl => ?_)
  refine lv_iconst (v := 0) hx hb dX2_ruler_3 (by decide) ?_
  refine lv_topi (fun y2 ey2 => ?_)
  have hf := sq_e hf y2 ey2
  refine lv_istore_n (lv' := [(2, .int y2), (1, .int y1), (0, .ref (ad 31))]) hx hb dX2_ruler_4 rfl hl (by decide) rfl (fun ls hl => ?_)
  refine lv_iconst (v := 0) hx hb dX2_ruler_5 (by decide) ?_
  refine lv_topi (fun y3 ey3 => ?_)
  have hf := sq_e hf y3 ey3
  refine lv_istore_n (lv' := [(3, .int y3), (2, .int y2), (1, .int y1), (0, .ref (ad 31))]) hx hb dX2_ruler_6 rfl hl (by decide) rfl (fun ls hl => ?_)
  exact tlc_X2_ruler_7 hc hV n n σ y1 y2 y3 _ _ _ hB (lv_sub hl [3, 2, 1, 0] rfl) hf
theorem cc_X2_ruler (l : Launch) (D : va_G) (ad : Nat → Nat) (cy : CY) (z : CZ) (n : Nat) (σ : CS) {r0 : Int32} {σ0 : CS} (hf : fc_X2_ruler n σ = some (r0, σ0)) : cM l yX2_ruler wn_X2_ruler rm_X2_ruler D ad cy z [.ref (ad 31)] σ (some (.int r0)) σ0 :=
  rc_met (ret := (some .int)) (by decide) rfl (Nat.le_of_ble_eq_true rfl) (fun p e s m below meth c A ls hc hV hB hl => tbc_X2_ruler_0 hc hV n σ hB hl hf)
/-! X4_toneOfTenth -/
abbrev rm_X4_toneOfTenth : Room := { frames := 0, cells := 0, slots := 0, locals := 0 }
abbrev wn_X4_toneOfTenth : List Cond := .code yX4_toneOfTenth cX4_toneOfTenth 2 (some .int) :: wsC
def fc_X4_toneOfTenth (n : Nat) (σ : CS) (x1 : Int32) : Option ((Int32) × CS) := if (x1 < 0) then (some ((-1), σ)) else (if ((σ.1 16 1) ≤ x1) then (some ((-1), σ)) else (if ((Int32.ofNat 24) ≤ x1) then (some ((-1), σ)) else (ck (ib x1 24) (sq ((σ.1 17 (Int32.toNatClampNeg x1)) : Int32) (fun y5 => some (y5, σ))))))
set_option maxRecDepth 100000 in
set_option maxHeartbeats 4000000 in
theorem tbc_X4_toneOfTenth_0 {p : Program} {l : Launch} {e : Env} {s : State} {m : MethodId} {args : Array Value} {below : List Frame} {meth : Method} {c : Code} {D : va_G} {A : Nat → Prop} {ad : Nat → Nat} {cy : CY} {z : CZ} {r0 : Int32} {σ0 : CS} (hc : cxB RX4 wsC cX4_toneOfTenth 2 (some .int) p s m args meth c) (hV : cV D cy z A s) (n : Nat) (σ : CS) (x1 : Int32) {H : Heap} {locs : List Loc} {ls : Array Slot} (hB : cB D ad cy A s.heap σ H locs) (hl : lv_has ls 2 [(0, .ref (ad 16)), (1, .int x1)]) (hf : fc_X4_toneOfTenth n σ x1 = some (r0, σ0)) : W p l e rm_X4_toneOfTenth s m args below meth c H locs 0 0 (MQ below (cQ D ad cy A (some (.int r0)) σ0) args s 0 0 A) (F0 m 0 ls []) := by
  obtain ⟨hx, hb, hml, hown, hts, hr, hlocks⟩ := id hc
  unfold fc_X4_toneOfTenth at hf
  refine lv_iload_n hx hb dX4_toneOfTenth_0 rfl (lv_at hl 1 rfl) ?_
  refine lv_if_lt (tgt := 30) hx hb dX4_toneOfTenth_1 (by decide) (fun c1 => ?_) (fun c1 => ?_)
  · have hf := it_t hf c1
    refine lv_iconst (v := (-1)) hx hb dX4_toneOfTenth_30 (by decide) ?_
    obtain ⟨rfl, rfl⟩ := so_e hf
    exact rc_iret hx hb hr hlocks hB dX4_toneOfTenth_31
  · have hf := it_f hf c1
    refine lv_iload_n hx hb dX4_toneOfTenth_4 rfl (lv_at hl 1 rfl) ?_
    refine lv_aload_n hx hb dX4_toneOfTenth_5 rfl (lv_at hl 0 rfl) ?_
    refine rc_get (own := RX4) hx hb hts inC_4 hown hV hB 16 (c34 rfl hB) (ceq_16 _ _ _) rfl 1 (Nat.le_of_ble_eq_true rfl) qf_X4_15 rfl dX4_toneOfTenth_6 ?_
    refine lv_icmp_ge (tgt := 30) hx hb dX4_toneOfTenth_9 (by decide) (fun c2 => ?_) (fun c2 => ?_)
    · have hf := it_t hf c2
      refine lv_iconst (v := (-1)) hx hb dX4_toneOfTenth_30 (by decide) ?_
      obtain ⟨rfl, rfl⟩ := so_e hf
      exact rc_iret hx hb hr hlocks hB dX4_toneOfTenth_31
    · have hf := it_f hf c2
      refine lv_iload_n hx hb dX4_toneOfTenth_12 rfl (lv_at hl 1 rfl) ?_
      refine lv_aload_n hx hb dX4_toneOfTenth_13 rfl (lv_at hl 0 rfl) ?_
      refine rc_get (own := RX4) hx hb hts inC_4 hown hV hB 16 (c34 rfl hB) (ceq_16 _ _ _) rfl 0 (Nat.le_of_ble_eq_true rfl) qf_X4_9 rfl dX4_toneOfTenth_14 ?_
      refine rc_alen hx hb hV hB 17 (c34 rfl hB) (ceq_17 _ _ _) rfl dX4_toneOfTenth_17 ?_
      refine lv_icmp_ge (tgt := 30) hx hb dX4_toneOfTenth_18 (by decide) (fun c3 => ?_) (fun c3 => ?_)
      · have hf := it_t hf c3
        refine lv_iconst (v := (-1)) hx hb dX4_toneOfTenth_30 (by decide) ?_
        obtain ⟨rfl, rfl⟩ := so_e hf
        exact rc_iret hx hb hr hlocks hB dX4_toneOfTenth_31
      · have hf := it_f hf c3
        refine lv_aload_n hx hb dX4_toneOfTenth_21 rfl (lv_at hl 0 rfl) ?_
        refine rc_get (own := RX4) hx hb hts inC_4 hown hV hB 16 (c34 rfl hB) (ceq_16 _ _ _) rfl 0 (Nat.le_of_ble_eq_true rfl) qf_X4_9 rfl dX4_toneOfTenth_22 ?_
        refine lv_iload_n hx hb dX4_toneOfTenth_25 rfl (lv_at hl 1 rfl) ?_
        obtain ⟨k4, hf⟩ := ck_e hf
        refine rc_ald hx hb hV hB 17 (c34 rfl hB) (ceq_17 _ _ _) k4 dX4_toneOfTenth_26 ?_
        refine lv_topi (fun y5 ey5 => ?_)
        have hf := sq_e hf y5 ey5
        refine lv_goto (tgt := 31) hx hb dX4_toneOfTenth_27 (by decide) ?_
        obtain ⟨rfl, rfl⟩ := so_e hf
        exact rc_iret hx hb hr hlocks hB dX4_toneOfTenth_31
theorem cc_X4_toneOfTenth (l : Launch) (D : va_G) (ad : Nat → Nat) (cy : CY) (z : CZ) (n : Nat) (σ : CS) (x1 : Int32) {r0 : Int32} {σ0 : CS} (hf : fc_X4_toneOfTenth n σ x1 = some (r0, σ0)) : cM l yX4_toneOfTenth wn_X4_toneOfTenth rm_X4_toneOfTenth D ad cy z [.ref (ad 16), .int x1] σ (some (.int r0)) σ0 :=
  rc_met (ret := (some .int)) (by decide) rfl (Nat.le_of_ble_eq_true rfl) (fun p e s m below meth c A ls hc hV hB hl => tbc_X4_toneOfTenth_0 hc hV n σ x1 hB hl hf)
/-! X2_offAt -/
theorem kwc_X2_132 {R : Room} {s : State} {args : Array Value} (hts : ∀ w ∈ wsC, w.before args s = true) (hR : rm_X2_runTo.frames + 1 ≤ R.frames ∧ 8 + (3 + 11) + rm_X2_runTo.locals ≤ R.locals) : CallW R s args RX2 RX2 132 yX2_runTo cX2_runTo 3 none wn_X2_runTo rm_X2_runTo 0 0 1 := cwV 1 hts (gC_v qc_144 qc_145 qc_146 qc_108 qc_138) rfl rfl rfl (by decide +kernel) hR
theorem kwc_X2_139 {R : Room} {s : State} {args : Array Value} (hts : ∀ w ∈ wsC, w.before args s = true) (hR : rm_X4_toneOfTenth.frames + 1 ≤ R.frames ∧ 8 + (2 + 11) + rm_X4_toneOfTenth.locals ≤ R.locals) : CallW R s args RX2 RX4 139 yX4_toneOfTenth cX4_toneOfTenth 2 (some .int) wn_X4_toneOfTenth rm_X4_toneOfTenth 0 0 1 := cwV 1 hts (gC_v qc_147 qc_148 qc_149 qc_18 qc_150) rfl rfl rfl (by decide +kernel) hR
abbrev rm_X2_offAt : Room := { frames := 5, cells := 0, slots := 0, locals := 155 }
abbrev wn_X2_offAt : List Cond := .code yX2_offAt cX2_offAt 3 (some .int) :: wsC
def fc_X2_offAt (n : Nat) (σ : CS) (x1 : Int32) : Option ((Int32) × CS) := sq ((x1 * 10) : Int32) (fun y1 => bd (fc_X2_runTo n σ y1) (fun _ σ3 => if ((σ3.1 31 5) = y1) then (bd (fc_X4_toneOfTenth n σ3 x1) (fun r5 σ6 => sq (if 0 ≤ (r5 - (σ6.1 31 4)) then (r5 - (σ6.1 31 4)) else 0 - (r5 - (σ6.1 31 4)) : Int32) (fun y7 => some (y7, σ6)))) else (some (99999, σ3))))
set_option maxRecDepth 100000 in
set_option maxHeartbeats 4000000 in
theorem tbc_X2_offAt_0 {p : Program} {l : Launch} {e : Env} {s : State} {m : MethodId} {args : Array Value} {below : List Frame} {meth : Method} {c : Code} {D : va_G} {A : Nat → Prop} {ad : Nat → Nat} {cy : CY} {z : CZ} {r0 : Int32} {σ0 : CS} (hc : cxB RX2 wsC cX2_offAt 3 (some .int) p s m args meth c) (hV : cV D cy z A s) (n : Nat) (σ : CS) (x1 : Int32) {H : Heap} {locs : List Loc} {ls : Array Slot} (hB : cB D ad cy A s.heap σ H locs) (hl : lv_has ls 3 [(0, .ref (ad 31)), (1, .int x1)]) (hf : fc_X2_offAt n σ x1 = some (r0, σ0)) : W p l e rm_X2_offAt s m args below meth c H locs 0 0 (MQ below (cQ D ad cy A (some (.int r0)) σ0) args s 0 0 A) (F0 m 0 ls []) := by
  obtain ⟨hx, hb, hml, hown, hts, hr, hlocks⟩ := id hc
  unfold fc_X2_offAt at hf
  refine lv_iload_n hx hb dX2_offAt_0 rfl (lv_at hl 1 rfl) ?_
  refine lv_bipush (v := 10) hx hb dX2_offAt_1 (by decide) ?_
  refine lv_imul hx hb dX2_offAt_3 ?_
  refine lv_topi (fun y1 ey1 => ?_)
  have hf := sq_e hf y1 ey1
  refine lv_istore_n (lv' := [(2, .int y1), (0, .ref (ad 31)), (1, .int x1)]) hx hb dX2_offAt_4 rfl hl (by decide) rfl (fun ls hl => ?_)
  refine lv_aload_n hx hb dX2_offAt_5 rfl (lv_at hl 1 rfl) ?_
  refine lv_iload_n hx hb dX2_offAt_6 rfl (lv_at hl 0 rfl) ?_
  obtain ⟨r2, σ3, hkr2, hf⟩ := bd_e hf
  refine rc_callV (own := RX2) (av := [.int y1]) (rest := []) (rv := none) hx hb hml hown hts hl.1 hV hB 31 (c34 rfl hB) (ceq_31 _ _ _) rfl (cc_X2_runTo l D ad cy z n σ y1 hkr2) (kwc_X2_132  hts ⟨Nat.le_of_ble_eq_true rfl, Nat.le_of_ble_eq_true rfl⟩) rfl rfl (lv_room (Nat.le_of_ble_eq_true rfl)) dX2_offAt_7 (Nat.le_refl _) (Nat.le_refl _) (fun H locs hB => ?_)
  refine W.eq (g2 := F0 m 10 ls []) rfl ?_
  refine lv_aload_n hx hb dX2_offAt_10 rfl (lv_at hl 1 rfl) ?_
  refine rc_get (own := RX2) hx hb hts inC_2 hown hV hB 31 (c34 rfl hB) (ceq_31 _ _ _) rfl 5 (Nat.le_of_ble_eq_true rfl) qf_X2_48 rfl dX2_offAt_11 ?_
  refine lv_iload_n hx hb dX2_offAt_14 rfl (lv_at hl 0 rfl) ?_
  refine lv_icmp_ne (tgt := 40) hx hb dX2_offAt_15 (by decide) (fun c4 => ?_) (fun c4 => ?_)
  · have hf := it_f hf c4
    refine lv_ldc (v := 99999) hx hb hown (hts _ qc_143) dX2_offAt_40 ?_
    obtain ⟨rfl, rfl⟩ := so_e hf
    exact rc_iret hx hb hr hlocks hB dX2_offAt_42
  · have hf := it_t hf c4
    refine lv_aload_n hx hb dX2_offAt_18 rfl (lv_at hl 1 rfl) ?_
    refine rc_get (own := RX2) hx hb hts inC_2 hown hV hB 31 (c34 rfl hB) (ceq_31 _ _ _) rfl 0 (Nat.le_of_ble_eq_true rfl) qf_X2_18 rfl dX2_offAt_19 ?_
    refine rc_get (own := RX2) hx hb hts inC_0 hown hV hB 5 (c34 rfl hB) (ceq_5 _ _ _) rfl 7 (Nat.le_of_ble_eq_true rfl) qf_X2_135 rfl dX2_offAt_22 ?_
    refine lv_iload_n hx hb dX2_offAt_25 rfl (lv_at hl 2 rfl) ?_
    obtain ⟨r5, σ6, hkr5, hf⟩ := bd_e hf
    refine rc_callV (own := RX2) (av := [.int x1]) (rest := []) (rv := (some (.int r5))) hx hb hml hown hts hl.1 hV hB 16 (c34 rfl hB) (ceq_16 _ _ _) rfl (cc_X4_toneOfTenth l D ad cy z n σ3 x1 hkr5) (kwc_X2_139  hts ⟨Nat.le_of_ble_eq_true rfl, Nat.le_of_ble_eq_true rfl⟩) rfl rfl (lv_room (Nat.le_of_ble_eq_true rfl)) dX2_offAt_26 (Nat.le_refl _) (Nat.le_refl _) (fun H locs hB => ?_)
    refine W.eq (g2 := F0 m 29 ls [.int r5]) rfl ?_
    refine lv_aload_n hx hb dX2_offAt_29 rfl (lv_at hl 1 rfl) ?_
    refine rc_get (own := RX2) hx hb hts inC_2 hown hV hB 31 (c34 rfl hB) (ceq_31 _ _ _) rfl 4 (Nat.le_of_ble_eq_true rfl) qf_X2_93 rfl dX2_offAt_30 ?_
    refine lv_isub hx hb dX2_offAt_33 ?_
    refine va_mabs hx hb (hml.trans hl.1.symm) hown (hts _ qc_140) (hts _ qc_141) (hts _ qc_69) (hts _ qc_142) (Nat.le_of_ble_eq_true rfl) (Nat.le_of_ble_eq_true rfl) (Nat.le_refl _) (Nat.le_refl _) dX2_offAt_34 ?_
    refine lv_topi (fun y7 ey7 => ?_)
    have hf := sq_e hf y7 ey7
    refine lv_goto (tgt := 42) hx hb dX2_offAt_37 (by decide) ?_
    obtain ⟨rfl, rfl⟩ := so_e hf
    exact rc_iret hx hb hr hlocks hB dX2_offAt_42
theorem cc_X2_offAt (l : Launch) (D : va_G) (ad : Nat → Nat) (cy : CY) (z : CZ) (n : Nat) (σ : CS) (x1 : Int32) {r0 : Int32} {σ0 : CS} (hf : fc_X2_offAt n σ x1 = some (r0, σ0)) : cM l yX2_offAt wn_X2_offAt rm_X2_offAt D ad cy z [.ref (ad 31), .int x1] σ (some (.int r0)) σ0 :=
  rc_met (ret := (some .int)) (by decide) rfl (Nat.le_of_ble_eq_true rfl) (fun p e s m below meth c A ls hc hV hB hl => tbc_X2_offAt_0 hc hV n σ x1 hB hl hf)
/-! X4_append -/
abbrev rm_X4_append : Room := { frames := 0, cells := 0, slots := 0, locals := 0 }
abbrev wn_X4_append : List Cond := .code yX4_append cX4_append 2 (some .int) :: wsC
def fc_X4_append (n : Nat) (σ : CS) (x1 : Int32) : Option ((Int32) × CS) := if ((σ.1 16 1) < 0) then (some ((σ.1 16 1), σ)) else (if ((Int32.ofNat 24) ≤ (σ.1 16 1)) then (some ((σ.1 16 1), σ)) else (ck (ib (σ.1 16 1) 24) (sq (cp σ 17 (Int32.toNatClampNeg (σ.1 16 1)) x1) (fun σ4 => sq (cp σ4 16 1 ((σ4.1 16 1) + 1)) (fun σ5 => some ((σ5.1 16 1), σ5))))))
set_option maxRecDepth 100000 in
set_option maxHeartbeats 4000000 in
theorem tbc_X4_append_0 {p : Program} {l : Launch} {e : Env} {s : State} {m : MethodId} {args : Array Value} {below : List Frame} {meth : Method} {c : Code} {D : va_G} {A : Nat → Prop} {ad : Nat → Nat} {cy : CY} {z : CZ} {r0 : Int32} {σ0 : CS} (hc : cxB RX4 wsC cX4_append 2 (some .int) p s m args meth c) (hV : cV D cy z A s) (n : Nat) (σ : CS) (x1 : Int32) {H : Heap} {locs : List Loc} {ls : Array Slot} (hB : cB D ad cy A s.heap σ H locs) (hl : lv_has ls 2 [(0, .ref (ad 16)), (1, .int x1)]) (hf : fc_X4_append n σ x1 = some (r0, σ0)) : W p l e rm_X4_append s m args below meth c H locs 0 0 (MQ below (cQ D ad cy A (some (.int r0)) σ0) args s 0 0 A) (F0 m 0 ls []) := by
  obtain ⟨hx, hb, hml, hown, hts, hr, hlocks⟩ := id hc
  unfold fc_X4_append at hf
  refine lv_aload_n hx hb dX4_append_0 rfl (lv_at hl 0 rfl) ?_
  refine rc_get (own := RX4) hx hb hts inC_4 hown hV hB 16 (c34 rfl hB) (ceq_16 _ _ _) rfl 1 (Nat.le_of_ble_eq_true rfl) qf_X4_15 rfl dX4_append_1 ?_
  refine lv_if_lt (tgt := 39) hx hb dX4_append_4 (by decide) (fun c1 => ?_) (fun c1 => ?_)
  · have hf := it_t hf c1
    refine lv_aload_n hx hb dX4_append_39 rfl (lv_at hl 0 rfl) ?_
    refine rc_get (own := RX4) hx hb hts inC_4 hown hV hB 16 (c34 rfl hB) (ceq_16 _ _ _) rfl 1 (Nat.le_of_ble_eq_true rfl) qf_X4_15 rfl dX4_append_40 ?_
    obtain ⟨rfl, rfl⟩ := so_e hf
    exact rc_iret hx hb hr hlocks hB dX4_append_43
  · have hf := it_f hf c1
    refine lv_aload_n hx hb dX4_append_7 rfl (lv_at hl 0 rfl) ?_
    refine rc_get (own := RX4) hx hb hts inC_4 hown hV hB 16 (c34 rfl hB) (ceq_16 _ _ _) rfl 1 (Nat.le_of_ble_eq_true rfl) qf_X4_15 rfl dX4_append_8 ?_
    refine lv_aload_n hx hb dX4_append_11 rfl (lv_at hl 0 rfl) ?_
    refine rc_get (own := RX4) hx hb hts inC_4 hown hV hB 16 (c34 rfl hB) (ceq_16 _ _ _) rfl 0 (Nat.le_of_ble_eq_true rfl) qf_X4_9 rfl dX4_append_12 ?_
    refine rc_alen hx hb hV hB 17 (c34 rfl hB) (ceq_17 _ _ _) rfl dX4_append_15 ?_
    refine lv_icmp_ge (tgt := 39) hx hb dX4_append_16 (by decide) (fun c2 => ?_) (fun c2 => ?_)
    · have hf := it_t hf c2
      refine lv_aload_n hx hb dX4_append_39 rfl (lv_at hl 0 rfl) ?_
      refine rc_get (own := RX4) hx hb hts inC_4 hown hV hB 16 (c34 rfl hB) (ceq_16 _ _ _) rfl 1 (Nat.le_of_ble_eq_true rfl) qf_X4_15 rfl dX4_append_40 ?_
      obtain ⟨rfl, rfl⟩ := so_e hf
      exact rc_iret hx hb hr hlocks hB dX4_append_43
    · have hf := it_f hf c2
      refine lv_aload_n hx hb dX4_append_19 rfl (lv_at hl 0 rfl) ?_
      refine rc_get (own := RX4) hx hb hts inC_4 hown hV hB 16 (c34 rfl hB) (ceq_16 _ _ _) rfl 0 (Nat.le_of_ble_eq_true rfl) qf_X4_9 rfl dX4_append_20 ?_
      refine lv_aload_n hx hb dX4_append_23 rfl (lv_at hl 0 rfl) ?_
      refine rc_get (own := RX4) hx hb hts inC_4 hown hV hB 16 (c34 rfl hB) (ceq_16 _ _ _) rfl 1 (Nat.le_of_ble_eq_true rfl) qf_X4_15 rfl dX4_append_24 ?_
      refine lv_iload_n hx hb dX4_append_27 rfl (lv_at hl 1 rfl) ?_
      obtain ⟨k3, hf⟩ := ck_e hf
      refine rc_ast hx hb hV hB 17 (c34 rfl hB) (ceq_17 _ _ _) (fun _ => rfl) k3 dX4_append_28 (fun σ4 eσ4 H locs hB => ?_)
      have hf := sq_e hf σ4 eσ4
      refine lv_aload_n hx hb dX4_append_29 rfl (lv_at hl 0 rfl) ?_
      refine lv_dup hx hb dX4_append_30 rfl ?_
      refine rc_get (own := RX4) hx hb hts inC_4 hown hV hB 16 (c34 rfl hB) (ceq_16 _ _ _) rfl 1 (Nat.le_of_ble_eq_true rfl) qf_X4_15 rfl dX4_append_31 ?_
      refine lv_iconst (v := 1) hx hb dX4_append_34 (by decide) ?_
      refine lv_iadd hx hb dX4_append_35 ?_
      refine rc_puti (own := RX4) (ty := .int) hx hb hts inC_4 hown hV hB 16 (c34 rfl hB) (ceq_16 _ _ _) rfl 1 (Nat.le_of_ble_eq_true rfl) qf_X4_15 tyX4 tyX4_ok nmX4 (cst_16_1 _ _ _ _) rfl pdc_4_1 rfl rfl (Nat.le_of_ble_eq_true rfl) dX4_append_36 (fun σ5 eσ5 H locs hB => ?_)
      have hf := sq_e hf σ5 eσ5
      refine lv_aload_n hx hb dX4_append_39 rfl (lv_at hl 0 rfl) ?_
      refine rc_get (own := RX4) hx hb hts inC_4 hown hV hB 16 (c34 rfl hB) (ceq_16 _ _ _) rfl 1 (Nat.le_of_ble_eq_true rfl) qf_X4_15 rfl dX4_append_40 ?_
      obtain ⟨rfl, rfl⟩ := so_e hf
      exact rc_iret hx hb hr hlocks hB dX4_append_43
theorem cc_X4_append (l : Launch) (D : va_G) (ad : Nat → Nat) (cy : CY) (z : CZ) (n : Nat) (σ : CS) (x1 : Int32) {r0 : Int32} {σ0 : CS} (hf : fc_X4_append n σ x1 = some (r0, σ0)) : cM l yX4_append wn_X4_append rm_X4_append D ad cy z [.ref (ad 16), .int x1] σ (some (.int r0)) σ0 :=
  rc_met (ret := (some .int)) (by decide) rfl (Nat.le_of_ble_eq_true rfl) (fun p e s m below meth c A ls hc hV hB hl => tbc_X4_append_0 hc hV n σ x1 hB hl hf)
/-! X4_isHeard -/
theorem kwc_X4_19 {R : Room} {s : State} {args : Array Value} (hts : ∀ w ∈ wsC, w.before args s = true) (hR : rm_X4_toneOfTenth.frames + 1 ≤ R.frames ∧ 8 + (2 + 11) + rm_X4_toneOfTenth.locals ≤ R.locals) : CallW R s args RX4 RX4 19 yX4_toneOfTenth cX4_toneOfTenth 2 (some .int) wn_X4_toneOfTenth rm_X4_toneOfTenth 0 0 1 := cwV 1 hts (gC_v qc_158 qc_148 qc_149 qc_18 qc_150) rfl rfl rfl (by decide +kernel) hR
abbrev rm_X4_isHeard : Room := { frames := 1, cells := 0, slots := 0, locals := 21 }
abbrev wn_X4_isHeard : List Cond := .code yX4_isHeard cX4_isHeard 2 (some .boolean) :: wsC
def fc_X4_isHeard (n : Nat) (σ : CS) (x1 : Int32) : Option ((Int32) × CS) := bd (fc_X4_toneOfTenth n σ x1) (fun r1 σ2 => if (r1 = (-1)) then (some (0, σ2)) else (some (1, σ2)))
set_option maxRecDepth 100000 in
set_option maxHeartbeats 4000000 in
theorem tbc_X4_isHeard_0 {p : Program} {l : Launch} {e : Env} {s : State} {m : MethodId} {args : Array Value} {below : List Frame} {meth : Method} {c : Code} {D : va_G} {A : Nat → Prop} {ad : Nat → Nat} {cy : CY} {z : CZ} {r0 : Int32} {σ0 : CS} (hc : cxB RX4 wsC cX4_isHeard 2 (some .boolean) p s m args meth c) (hV : cV D cy z A s) (n : Nat) (σ : CS) (x1 : Int32) {H : Heap} {locs : List Loc} {ls : Array Slot} (hB : cB D ad cy A s.heap σ H locs) (hl : lv_has ls 2 [(0, .ref (ad 16)), (1, .int x1)]) (hf : fc_X4_isHeard n σ x1 = some (r0, σ0)) : W p l e rm_X4_isHeard s m args below meth c H locs 0 0 (MQ below (cQ D ad cy A (some (.int r0)) σ0) args s 0 0 A) (F0 m 0 ls []) := by
  obtain ⟨hx, hb, hml, hown, hts, hr, hlocks⟩ := id hc
  unfold fc_X4_isHeard at hf
  refine lv_aload_n hx hb dX4_isHeard_0 rfl (lv_at hl 0 rfl) ?_
  refine lv_iload_n hx hb dX4_isHeard_1 rfl (lv_at hl 1 rfl) ?_
  obtain ⟨r1, σ2, hkr1, hf⟩ := bd_e hf
  refine rc_callV (own := RX4) (av := [.int x1]) (rest := []) (rv := (some (.int r1))) hx hb hml hown hts hl.1 hV hB 16 (c34 rfl hB) (ceq_16 _ _ _) rfl (cc_X4_toneOfTenth l D ad cy z n σ x1 hkr1) (kwc_X4_19  hts ⟨Nat.le_of_ble_eq_true rfl, Nat.le_of_ble_eq_true rfl⟩) rfl rfl (lv_room (Nat.le_of_ble_eq_true rfl)) dX4_isHeard_2 (Nat.le_refl _) (Nat.le_refl _) (fun H locs hB => ?_)
  refine W.eq (g2 := F0 m 5 ls [.int r1]) rfl ?_
  refine lv_iconst (v := (-1)) hx hb dX4_isHeard_5 (by decide) ?_
  refine lv_icmp_eq (tgt := 13) hx hb dX4_isHeard_6 (by decide) (fun c3 => ?_) (fun c3 => ?_)
  · have hf := it_t hf c3
    refine lv_iconst (v := 0) hx hb dX4_isHeard_13 (by decide) ?_
    obtain ⟨rfl, rfl⟩ := so_e hf
    exact rc_zret hx hb hr hlocks rfl hB dX4_isHeard_14
  · have hf := it_f hf c3
    refine lv_iconst (v := 1) hx hb dX4_isHeard_9 (by decide) ?_
    refine lv_goto (tgt := 14) hx hb dX4_isHeard_10 (by decide) ?_
    obtain ⟨rfl, rfl⟩ := so_e hf
    exact rc_zret hx hb hr hlocks rfl hB dX4_isHeard_14
theorem cc_X4_isHeard (l : Launch) (D : va_G) (ad : Nat → Nat) (cy : CY) (z : CZ) (n : Nat) (σ : CS) (x1 : Int32) {r0 : Int32} {σ0 : CS} (hf : fc_X4_isHeard n σ x1 = some (r0, σ0)) : cM l yX4_isHeard wn_X4_isHeard rm_X4_isHeard D ad cy z [.ref (ad 16), .int x1] σ (some (.int r0)) σ0 :=
  rc_met (ret := (some .boolean)) (by decide) rfl (Nat.le_of_ble_eq_true rfl) (fun p e s m below meth c A ls hc hV hB hl => tbc_X4_isHeard_0 hc hV n σ x1 hB hl hf)
/-! X4_heardOnes -/
theorem kwc_X4_23 {R : Room} {s : State} {args : Array Value} (hts : ∀ w ∈ wsC, w.before args s = true) (hR : rm_X4_isHeard.frames + 1 ≤ R.frames ∧ 8 + (2 + 11) + rm_X4_isHeard.locals ≤ R.locals) : CallW R s args RX4 RX4 23 yX4_isHeard cX4_isHeard 2 (some .boolean) wn_X4_isHeard rm_X4_isHeard 0 0 1 := cwV 1 hts (gC_v qc_159 qc_160 qc_161 qc_18 qc_157) rfl rfl rfl (by decide +kernel) hR
abbrev rm_X4_heardOnes : Room := { frames := 2, cells := 0, slots := 0, locals := 42 }
abbrev wn_X4_heardOnes : List Cond := .code yX4_heardOnes cX4_heardOnes 3 (some .int) :: wsC
def bc_X4_heardOnes_4 (n : Nat) (K4 : CS → Int32 → Int32 → Option ((Int32) × CS)) (σ : CS) (x1 : Int32) (x2 : Int32) : Option ((Int32) × CS) := if ((σ.1 16 1) ≤ x2) then (some (x1, σ)) else (bd (fc_X4_isHeard n σ x2) (fun r2 σ3 => if (r2 = 0) then (sq (x2 + 1 : Int32) (fun y5 => K4 σ3 x1 y5)) else (sq (x1 + 1 : Int32) (fun y6 => sq (x2 + 1 : Int32) (fun y7 => K4 σ3 y6 y7)))))
set_option maxRecDepth 100000 in
set_option maxHeartbeats 4000000 in
theorem tbc_X4_heardOnes_4 {p : Program} {l : Launch} {e : Env} {s : State} {m : MethodId} {args : Array Value} {below : List Frame} {meth : Method} {c : Code} {D : va_G} {A : Nat → Prop} {ad : Nat → Nat} {cy : CY} {z : CZ} {r0 : Int32} {σ0 : CS} (hc : cxB RX4 wsC cX4_heardOnes 3 (some .int) p s m args meth c) (hV : cV D cy z A s) (n : Nat) (K4 : CS → Int32 → Int32 → Option ((Int32) × CS)) (hK4 : ∀ (σ : CS) (x1 : Int32) (x2 : Int32) (H : Heap) (locs : List Loc) (ls : Array Slot), cB D ad cy A s.heap σ H locs → lv_has ls 3 [(0, .ref (ad 16)), (1, .int x1), (2, .int x2)] → K4 σ x1 x2 = some (r0, σ0) → W p l e rm_X4_heardOnes s m args below meth c H locs 0 0 (MQ below (cQ D ad cy A (some (.int r0)) σ0) args s 0 0 A) (F0 m 4 ls [])) (σ : CS) (x1 : Int32) (x2 : Int32) {H : Heap} {locs : List Loc} {ls : Array Slot} (hB : cB D ad cy A s.heap σ H locs) (hl : lv_has ls 3 [(0, .ref (ad 16)), (1, .int x1), (2, .int x2)]) (hf : bc_X4_heardOnes_4 n K4 σ x1 x2 = some (r0, σ0)) : W p l e rm_X4_heardOnes s m args below meth c H locs 0 0 (MQ below (cQ D ad cy A (some (.int r0)) σ0) args s 0 0 A) (F0 m 4 ls []) := by
  obtain ⟨hx, hb, hml, hown, hts, hr, hlocks⟩ := id hc
  unfold bc_X4_heardOnes_4 at hf
  refine lv_iload_n hx hb dX4_heardOnes_4 rfl (lv_at hl 2 rfl) ?_
  refine lv_aload_n hx hb dX4_heardOnes_5 rfl (lv_at hl 0 rfl) ?_
  refine rc_get (own := RX4) hx hb hts inC_4 hown hV hB 16 (c34 rfl hB) (ceq_16 _ _ _) rfl 1 (Nat.le_of_ble_eq_true rfl) qf_X4_15 rfl dX4_heardOnes_6 ?_
  refine lv_icmp_ge (tgt := 29) hx hb dX4_heardOnes_9 (by decide) (fun c1 => ?_) (fun c1 => ?_)
  · have hf := it_t hf c1
    refine lv_iload_n hx hb dX4_heardOnes_29 rfl (lv_at hl 1 rfl) ?_
    obtain ⟨rfl, rfl⟩ := so_e hf
    exact rc_iret hx hb hr hlocks hB dX4_heardOnes_30
  · have hf := it_f hf c1
    refine lv_aload_n hx hb dX4_heardOnes_12 rfl (lv_at hl 0 rfl) ?_
    refine lv_iload_n hx hb dX4_heardOnes_13 rfl (lv_at hl 2 rfl) ?_
    obtain ⟨r2, σ3, hkr2, hf⟩ := bd_e hf
    refine rc_callV (own := RX4) (av := [.int x2]) (rest := []) (rv := (some (.int r2))) hx hb hml hown hts hl.1 hV hB 16 (c34 rfl hB) (ceq_16 _ _ _) rfl (cc_X4_isHeard l D ad cy z n σ x2 hkr2) (kwc_X4_23  hts ⟨Nat.le_of_ble_eq_true rfl, Nat.le_of_ble_eq_true rfl⟩) rfl rfl (lv_room (Nat.le_of_ble_eq_true rfl)) dX4_heardOnes_14 (Nat.le_refl _) (Nat.le_refl _) (fun H locs hB => ?_)
    refine W.eq (g2 := F0 m 17 ls [.int r2]) rfl ?_
    refine lv_if_eq (tgt := 23) hx hb dX4_heardOnes_17 (by decide) (fun c4 => ?_) (fun c4 => ?_)
    · have hf := it_t hf c4
      obtain ⟨y5, ey5⟩ : ∃ z : Int32, z = x2 + 1 := ⟨_, rfl⟩
      have hf := sq_e hf y5 ey5
      refine lv_iinc (v := y5) (lv' := [(2, .int y5), (0, .ref (ad 16)), (1, .int x1)]) hx hb dX4_heardOnes_23 hl (k := 2) rfl (by rw [ey5]; rfl) (by decide) rfl (fun ls hl => ?_)
      refine lv_goto (tgt := 4) hx hb dX4_heardOnes_26 (by decide) ?_
      exact hK4 σ3 x1 y5 _ _ _ hB (lv_sub hl [1, 2, 0] rfl) hf
    · have hf := it_f hf c4
      obtain ⟨y6, ey6⟩ : ∃ z : Int32, z = x1 + 1 := ⟨_, rfl⟩
      have hf := sq_e hf y6 ey6
      refine lv_iinc (v := y6) (lv' := [(1, .int y6), (0, .ref (ad 16)), (2, .int x2)]) hx hb dX4_heardOnes_20 hl (k := 1) rfl (by rw [ey6]; rfl) (by decide) rfl (fun ls hl => ?_)
      obtain ⟨y7, ey7⟩ : ∃ z : Int32, z = x2 + 1 := ⟨_, rfl⟩
      have hf := sq_e hf y7 ey7
      refine lv_iinc (v := y7) (lv' := [(2, .int y7), (1, .int y6), (0, .ref (ad 16))]) hx hb dX4_heardOnes_23 hl (k := 2) rfl (by rw [ey7]; rfl) (by decide) rfl (fun ls hl => ?_)
      refine lv_goto (tgt := 4) hx hb dX4_heardOnes_26 (by decide) ?_
      exact hK4 σ3 y6 y7 _ _ _ hB (lv_sub hl [2, 1, 0] rfl) hf
def lc_X4_heardOnes_4 (n : Nat) : Nat → CS → Int32 → Int32 → Option ((Int32) × CS)
  | 0 => fun _ _ _ => none
  | k + 1 => bc_X4_heardOnes_4 n (lc_X4_heardOnes_4 n k)
theorem tlc_X4_heardOnes_4 {p : Program} {l : Launch} {e : Env} {s : State} {m : MethodId} {args : Array Value} {below : List Frame} {meth : Method} {c : Code} {D : va_G} {A : Nat → Prop} {ad : Nat → Nat} {cy : CY} {z : CZ} {r0 : Int32} {σ0 : CS} (hc : cxB RX4 wsC cX4_heardOnes 3 (some .int) p s m args meth c) (hV : cV D cy z A s) (n : Nat) : ∀ (k : Nat) (σ : CS) (x1 : Int32) (x2 : Int32) (H : Heap) (locs : List Loc) (ls : Array Slot), cB D ad cy A s.heap σ H locs → lv_has ls 3 [(0, .ref (ad 16)), (1, .int x1), (2, .int x2)] → lc_X4_heardOnes_4 n k σ x1 x2 = some (r0, σ0) → W p l e rm_X4_heardOnes s m args below meth c H locs 0 0 (MQ below (cQ D ad cy A (some (.int r0)) σ0) args s 0 0 A) (F0 m 4 ls []) := by
  intro k
  induction k with
  | zero =>
    intro σ x1 x2 H locs ls hB hl hf
    have hf : (none : Option ((Int32) × CS)) = some (r0, σ0) := hf
    cases hf
  | succ k ih =>
    intro σ x1 x2 H locs ls hB hl hf
    exact tbc_X4_heardOnes_4 hc hV n (lc_X4_heardOnes_4 n k) ih σ x1 x2 hB hl hf
def fc_X4_heardOnes (n : Nat) (σ : CS) : Option ((Int32) × CS) := sq (0 : Int32) (fun y1 => sq (0 : Int32) (fun y2 => lc_X4_heardOnes_4 n n σ y1 y2))
set_option maxRecDepth 100000 in
set_option maxHeartbeats 4000000 in
theorem tbc_X4_heardOnes_0 {p : Program} {l : Launch} {e : Env} {s : State} {m : MethodId} {args : Array Value} {below : List Frame} {meth : Method} {c : Code} {D : va_G} {A : Nat → Prop} {ad : Nat → Nat} {cy : CY} {z : CZ} {r0 : Int32} {σ0 : CS} (hc : cxB RX4 wsC cX4_heardOnes 3 (some .int) p s m args meth c) (hV : cV D cy z A s) (n : Nat) (σ : CS) {H : Heap} {locs : List Loc} {ls : Array Slot} (hB : cB D ad cy A s.heap σ H locs) (hl : lv_has ls 3 [(0, .ref (ad 16))]) (hf : fc_X4_heardOnes n σ = some (r0, σ0)) : W p l e rm_X4_heardOnes s m args below meth c H locs 0 0 (MQ below (cQ D ad cy A (some (.int r0)) σ0) args s 0 0 A) (F0 m 0 ls []) := by
  obtain ⟨hx, hb, hml, hown, hts, hr, hlocks⟩ := id hc
  unfold fc_X4_heardOnes at hf
  refine lv_iconst (v := 0) hx hb dX4_heardOnes_0 (by decide) ?_
  refine lv_topi (fun y1 ey1 => ?_)
  have hf := sq_e hf y1 ey1
  refine lv_istore_n (lv' := [(1, .int y1), (0, .ref (ad 16))]) hx hb dX4_heardOnes_1 rfl hl (by decide) rfl (fun ls hl => ?_)
  refine lv_iconst (v := 0) hx hb dX4_heardOnes_2 (by decide) ?_
  refine lv_topi (fun y2 ey2 => ?_)
  have hf := sq_e hf y2 ey2
  refine lv_istore_n (lv' := [(2, .int y2), (1, .int y1), (0, .ref (ad 16))]) hx hb dX4_heardOnes_3 rfl hl (by decide) rfl (fun ls hl => ?_)
  exact tlc_X4_heardOnes_4 hc hV n n σ y1 y2 _ _ _ hB (lv_sub hl [2, 1, 0] rfl) hf
theorem cc_X4_heardOnes (l : Launch) (D : va_G) (ad : Nat → Nat) (cy : CY) (z : CZ) (n : Nat) (σ : CS) {r0 : Int32} {σ0 : CS} (hf : fc_X4_heardOnes n σ = some (r0, σ0)) : cM l yX4_heardOnes wn_X4_heardOnes rm_X4_heardOnes D ad cy z [.ref (ad 16)] σ (some (.int r0)) σ0 :=
  rc_met (ret := (some .int)) (by decide) rfl (Nat.le_of_ble_eq_true rfl) (fun p e s m below meth c A ls hc hV hB hl => tbc_X4_heardOnes_0 hc hV n σ hB hl hf)
/-! J7_fill_53178 -/
abbrev rm_J7_fill_53178 : Room := { frames := 0, cells := 0, slots := 0, locals := 0 }
abbrev wn_J7_fill_53178 : List Cond := .code yJ7_fill_53178 cJ7_fill_53178 4 none :: wsC
def bc_J7_fill_53178_5 (n : Nat) (K5 : CS → Int32 → Int32 → Int32 → Option ((Int32) × CS)) (σ : CS) (x1 : Int32) (x2 : Int32) (x3 : Int32) : Option ((Int32) × CS) := if (x3 ≤ x2) then (some (0, σ)) else (ck (ib x2 8) (sq (cp σ 13 (Int32.toNatClampNeg x2) x1) (fun σ3 => sq (x2 + 1 : Int32) (fun y4 => K5 σ3 x1 y4 x3))))
set_option maxRecDepth 100000 in
set_option maxHeartbeats 4000000 in
theorem tbc_J7_fill_53178_5 {p : Program} {l : Launch} {e : Env} {s : State} {m : MethodId} {args : Array Value} {below : List Frame} {meth : Method} {c : Code} {D : va_G} {A : Nat → Prop} {ad : Nat → Nat} {cy : CY} {z : CZ} {r0 : Int32} {σ0 : CS} (hc : cxB RJ7 wsC cJ7_fill_53178 4 none p s m args meth c) (hV : cV D cy z A s) (n : Nat) (K5 : CS → Int32 → Int32 → Int32 → Option ((Int32) × CS)) (hK5 : ∀ (σ : CS) (x1 : Int32) (x2 : Int32) (x3 : Int32) (H : Heap) (locs : List Loc) (ls : Array Slot), cB D ad cy A s.heap σ H locs → lv_has ls 4 [(0, .ref (ad 13)), (1, .int x1), (2, .int x2), (3, .int x3)] → K5 σ x1 x2 x3 = some (r0, σ0) → W p l e rm_J7_fill_53178 s m args below meth c H locs 0 0 (MQ below (cQ D ad cy A none σ0) args s 0 0 A) (F0 m 5 ls [])) (σ : CS) (x1 : Int32) (x2 : Int32) (x3 : Int32) {H : Heap} {locs : List Loc} {ls : Array Slot} (hB : cB D ad cy A s.heap σ H locs) (hl : lv_has ls 4 [(0, .ref (ad 13)), (1, .int x1), (2, .int x2), (3, .int x3)]) (hf : bc_J7_fill_53178_5 n K5 σ x1 x2 x3 = some (r0, σ0)) : W p l e rm_J7_fill_53178 s m args below meth c H locs 0 0 (MQ below (cQ D ad cy A none σ0) args s 0 0 A) (F0 m 5 ls []) := by
  obtain ⟨hx, hb, hml, hown, hts, hr, hlocks⟩ := id hc
  unfold bc_J7_fill_53178_5 at hf
  refine lv_iload_n hx hb dJ7_fill_53178_5 rfl (lv_at hl 2 rfl) ?_
  refine lv_iload_n hx hb dJ7_fill_53178_6 rfl (lv_at hl 3 rfl) ?_
  refine lv_icmp_ge (tgt := 20) hx hb dJ7_fill_53178_7 (by decide) (fun c1 => ?_) (fun c1 => ?_)
  · have hf := it_t hf c1
    obtain ⟨rfl, rfl⟩ := so_e hf
    exact rc_vret hx hb hr hlocks hB dJ7_fill_53178_20
  · have hf := it_f hf c1
    refine lv_aload_n hx hb dJ7_fill_53178_10 rfl (lv_at hl 0 rfl) ?_
    refine lv_iload_n hx hb dJ7_fill_53178_11 rfl (lv_at hl 2 rfl) ?_
    refine lv_iload_n hx hb dJ7_fill_53178_12 rfl (lv_at hl 1 rfl) ?_
    obtain ⟨k2, hf⟩ := ck_e hf
    refine rc_ast hx hb hV hB 13 (c34 rfl hB) (ceq_13 _ _ _) (fun _ => rfl) k2 dJ7_fill_53178_13 (fun σ3 eσ3 H locs hB => ?_)
    have hf := sq_e hf σ3 eσ3
    obtain ⟨y4, ey4⟩ : ∃ z : Int32, z = x2 + 1 := ⟨_, rfl⟩
    have hf := sq_e hf y4 ey4
    refine lv_iinc (v := y4) (lv' := [(2, .int y4), (0, .ref (ad 13)), (1, .int x1), (3, .int x3)]) hx hb dJ7_fill_53178_14 hl (k := 2) rfl (by rw [ey4]; rfl) (by decide) rfl (fun ls hl => ?_)
    refine lv_goto (tgt := 5) hx hb dJ7_fill_53178_17 (by decide) ?_
    exact hK5 σ3 x1 y4 x3 _ _ _ hB (lv_sub hl [1, 2, 0, 3] rfl) hf
def lc_J7_fill_53178_5 (n : Nat) : Nat → CS → Int32 → Int32 → Int32 → Option ((Int32) × CS)
  | 0 => fun _ _ _ _ => none
  | k + 1 => bc_J7_fill_53178_5 n (lc_J7_fill_53178_5 n k)
theorem tlc_J7_fill_53178_5 {p : Program} {l : Launch} {e : Env} {s : State} {m : MethodId} {args : Array Value} {below : List Frame} {meth : Method} {c : Code} {D : va_G} {A : Nat → Prop} {ad : Nat → Nat} {cy : CY} {z : CZ} {r0 : Int32} {σ0 : CS} (hc : cxB RJ7 wsC cJ7_fill_53178 4 none p s m args meth c) (hV : cV D cy z A s) (n : Nat) : ∀ (k : Nat) (σ : CS) (x1 : Int32) (x2 : Int32) (x3 : Int32) (H : Heap) (locs : List Loc) (ls : Array Slot), cB D ad cy A s.heap σ H locs → lv_has ls 4 [(0, .ref (ad 13)), (1, .int x1), (2, .int x2), (3, .int x3)] → lc_J7_fill_53178_5 n k σ x1 x2 x3 = some (r0, σ0) → W p l e rm_J7_fill_53178 s m args below meth c H locs 0 0 (MQ below (cQ D ad cy A none σ0) args s 0 0 A) (F0 m 5 ls []) := by
  intro k
  induction k with
  | zero =>
    intro σ x1 x2 x3 H locs ls hB hl hf
    have hf : (none : Option ((Int32) × CS)) = some (r0, σ0) := hf
    cases hf
  | succ k ih =>
    intro σ x1 x2 x3 H locs ls hB hl hf
    exact tbc_J7_fill_53178_5 hc hV n (lc_J7_fill_53178_5 n k) ih σ x1 x2 x3 hB hl hf
def fc_J7_fill_53178 (n : Nat) (σ : CS) (x1 : Int32) : Option ((Int32) × CS) := sq (0 : Int32) (fun y1 => sq ((Int32.ofNat 8) : Int32) (fun y2 => lc_J7_fill_53178_5 n n σ x1 y1 y2))
set_option maxRecDepth 100000 in
set_option maxHeartbeats 4000000 in
theorem tbc_J7_fill_53178_0 {p : Program} {l : Launch} {e : Env} {s : State} {m : MethodId} {args : Array Value} {below : List Frame} {meth : Method} {c : Code} {D : va_G} {A : Nat → Prop} {ad : Nat → Nat} {cy : CY} {z : CZ} {r0 : Int32} {σ0 : CS} (hc : cxB RJ7 wsC cJ7_fill_53178 4 none p s m args meth c) (hV : cV D cy z A s) (n : Nat) (σ : CS) (x1 : Int32) {H : Heap} {locs : List Loc} {ls : Array Slot} (hB : cB D ad cy A s.heap σ H locs) (hl : lv_has ls 4 [(0, .ref (ad 13)), (1, .int x1)]) (hf : fc_J7_fill_53178 n σ x1 = some (r0, σ0)) : W p l e rm_J7_fill_53178 s m args below meth c H locs 0 0 (MQ below (cQ D ad cy A none σ0) args s 0 0 A) (F0 m 0 ls []) := by
  obtain ⟨hx, hb, hml, hown, hts, hr, hlocks⟩ := id hc
  unfold fc_J7_fill_53178 at hf
  refine lv_iconst (v := 0) hx hb dJ7_fill_53178_0 (by decide) ?_
  refine lv_topi (fun y1 ey1 => ?_)
  have hf := sq_e hf y1 ey1
  refine lv_istore_n (lv' := [(2, .int y1), (0, .ref (ad 13)), (1, .int x1)]) hx hb dJ7_fill_53178_1 rfl hl (by decide) rfl (fun ls hl => ?_)
  refine lv_aload_n hx hb dJ7_fill_53178_2 rfl (lv_at hl 1 rfl) ?_
  refine rc_alen hx hb hV hB 13 (c34 rfl hB) (ceq_13 _ _ _) rfl dJ7_fill_53178_3 ?_
  refine lv_topi (fun y2 ey2 => ?_)
  have hf := sq_e hf y2 ey2
  refine lv_istore_n (lv' := [(3, .int y2), (2, .int y1), (0, .ref (ad 13)), (1, .int x1)]) hx hb dJ7_fill_53178_4 rfl hl (by decide) rfl (fun ls hl => ?_)
  exact tlc_J7_fill_53178_5 hc hV n n σ x1 y1 y2 _ _ _ hB (lv_sub hl [2, 3, 1, 0] rfl) hf
theorem cc_J7_fill_53178 (l : Launch) (D : va_G) (ad : Nat → Nat) (cy : CY) (z : CZ) (n : Nat) (σ : CS) (x1 : Int32) {r0 : Int32} {σ0 : CS} (hf : fc_J7_fill_53178 n σ x1 = some (r0, σ0)) : cM l yJ7_fill_53178 wn_J7_fill_53178 rm_J7_fill_53178 D ad cy z [.ref (ad 13), .int x1] σ none σ0 :=
  rc_met (ret := none) (by decide) rfl (Nat.le_of_ble_eq_true rfl) (fun p e s m below meth c A ls hc hV hB hl => tbc_J7_fill_53178_0 hc hV n σ x1 hB hl hf)
/-! X5_keepTenth -/
abbrev rm_X5_keepTenth : Room := { frames := 0, cells := 0, slots := 0, locals := 0 }
abbrev wn_X5_keepTenth : List Cond := .code yX5_keepTenth cX5_keepTenth 1 none :: wsC
def fc_X5_keepTenth (n : Nat) (σ : CS) : Option ((Int32) × CS) := if ((σ.1 12 9) < 0) then (some (0, σ)) else (if (100 ≤ (σ.1 12 9)) then (some (0, σ)) else (ck (ib (σ.1 12 9) 100) (sq (cp σ 14 (Int32.toNatClampNeg (σ.1 12 9)) (σ.1 12 4)) (fun σ4 => ck (ib (σ4.1 12 9) 100) (sq (cp σ4 15 (Int32.toNatClampNeg (σ4.1 12 9)) (σ4.1 12 5)) (fun σ6 => sq (cp σ6 12 9 ((σ6.1 12 9) + 1)) (fun σ7 => some (0, σ7))))))))
set_option maxRecDepth 100000 in
set_option maxHeartbeats 4000000 in
theorem tbc_X5_keepTenth_0 {p : Program} {l : Launch} {e : Env} {s : State} {m : MethodId} {args : Array Value} {below : List Frame} {meth : Method} {c : Code} {D : va_G} {A : Nat → Prop} {ad : Nat → Nat} {cy : CY} {z : CZ} {r0 : Int32} {σ0 : CS} (hc : cxB RX5 wsC cX5_keepTenth 1 none p s m args meth c) (hV : cV D cy z A s) (n : Nat) (σ : CS) {H : Heap} {locs : List Loc} {ls : Array Slot} (hB : cB D ad cy A s.heap σ H locs) (hl : lv_has ls 1 [(0, .ref (ad 12))]) (hf : fc_X5_keepTenth n σ = some (r0, σ0)) : W p l e rm_X5_keepTenth s m args below meth c H locs 0 0 (MQ below (cQ D ad cy A none σ0) args s 0 0 A) (F0 m 0 ls []) := by
  obtain ⟨hx, hb, hml, hown, hts, hr, hlocks⟩ := id hc
  unfold fc_X5_keepTenth at hf
  refine lv_aload_n hx hb dX5_keepTenth_0 rfl (lv_at hl 0 rfl) ?_
  refine rc_get (own := RX5) hx hb hts inC_5 hown hV hB 12 (c34 rfl hB) (ceq_12 _ _ _) rfl 9 (Nat.le_of_ble_eq_true rfl) qf_X5_57 rfl dX5_keepTenth_1 ?_
  refine lv_if_lt (tgt := 52) hx hb dX5_keepTenth_4 (by decide) (fun c1 => ?_) (fun c1 => ?_)
  · have hf := it_t hf c1
    obtain ⟨rfl, rfl⟩ := so_e hf
    exact rc_vret hx hb hr hlocks hB dX5_keepTenth_52
  · have hf := it_f hf c1
    refine lv_aload_n hx hb dX5_keepTenth_7 rfl (lv_at hl 0 rfl) ?_
    refine rc_get (own := RX5) hx hb hts inC_5 hown hV hB 12 (c34 rfl hB) (ceq_12 _ _ _) rfl 9 (Nat.le_of_ble_eq_true rfl) qf_X5_57 rfl dX5_keepTenth_8 ?_
    refine lv_bipush (v := 100) hx hb dX5_keepTenth_11 (by decide) ?_
    refine lv_icmp_ge (tgt := 52) hx hb dX5_keepTenth_13 (by decide) (fun c2 => ?_) (fun c2 => ?_)
    · have hf := it_t hf c2
      obtain ⟨rfl, rfl⟩ := so_e hf
      exact rc_vret hx hb hr hlocks hB dX5_keepTenth_52
    · have hf := it_f hf c2
      refine lv_aload_n hx hb dX5_keepTenth_16 rfl (lv_at hl 0 rfl) ?_
      refine rc_get (own := RX5) hx hb hts inC_5 hown hV hB 12 (c34 rfl hB) (ceq_12 _ _ _) rfl 11 (Nat.le_of_ble_eq_true rfl) qf_X5_15 rfl dX5_keepTenth_17 ?_
      refine lv_aload_n hx hb dX5_keepTenth_20 rfl (lv_at hl 0 rfl) ?_
      refine rc_get (own := RX5) hx hb hts inC_5 hown hV hB 12 (c34 rfl hB) (ceq_12 _ _ _) rfl 9 (Nat.le_of_ble_eq_true rfl) qf_X5_57 rfl dX5_keepTenth_21 ?_
      refine lv_aload_n hx hb dX5_keepTenth_24 rfl (lv_at hl 0 rfl) ?_
      refine rc_get (own := RX5) hx hb hts inC_5 hown hV hB 12 (c34 rfl hB) (ceq_12 _ _ _) rfl 4 (Nat.le_of_ble_eq_true rfl) qf_X5_35 rfl dX5_keepTenth_25 ?_
      obtain ⟨k3, hf⟩ := ck_e hf
      refine rc_ast hx hb hV hB 14 (c34 rfl hB) (ceq_14 _ _ _) (fun _ => rfl) k3 dX5_keepTenth_28 (fun σ4 eσ4 H locs hB => ?_)
      have hf := sq_e hf σ4 eσ4
      refine lv_aload_n hx hb dX5_keepTenth_29 rfl (lv_at hl 0 rfl) ?_
      refine rc_get (own := RX5) hx hb hts inC_5 hown hV hB 12 (c34 rfl hB) (ceq_12 _ _ _) rfl 12 (Nat.le_of_ble_eq_true rfl) qf_X5_18 rfl dX5_keepTenth_30 ?_
      refine lv_aload_n hx hb dX5_keepTenth_33 rfl (lv_at hl 0 rfl) ?_
      refine rc_get (own := RX5) hx hb hts inC_5 hown hV hB 12 (c34 rfl hB) (ceq_12 _ _ _) rfl 9 (Nat.le_of_ble_eq_true rfl) qf_X5_57 rfl dX5_keepTenth_34 ?_
      refine lv_aload_n hx hb dX5_keepTenth_37 rfl (lv_at hl 0 rfl) ?_
      refine rc_get (own := RX5) hx hb hts inC_5 hown hV hB 12 (c34 rfl hB) (ceq_12 _ _ _) rfl 5 (Nat.le_of_ble_eq_true rfl) qf_X5_38 rfl dX5_keepTenth_38 ?_
      obtain ⟨k5, hf⟩ := ck_e hf
      refine rc_ast hx hb hV hB 15 (c34 rfl hB) (ceq_15 _ _ _) (fun _ => rfl) k5 dX5_keepTenth_41 (fun σ6 eσ6 H locs hB => ?_)
      have hf := sq_e hf σ6 eσ6
      refine lv_aload_n hx hb dX5_keepTenth_42 rfl (lv_at hl 0 rfl) ?_
      refine lv_dup hx hb dX5_keepTenth_43 rfl ?_
      refine rc_get (own := RX5) hx hb hts inC_5 hown hV hB 12 (c34 rfl hB) (ceq_12 _ _ _) rfl 9 (Nat.le_of_ble_eq_true rfl) qf_X5_57 rfl dX5_keepTenth_44 ?_
      refine lv_iconst (v := 1) hx hb dX5_keepTenth_47 (by decide) ?_
      refine lv_iadd hx hb dX5_keepTenth_48 ?_
      refine rc_puti (own := RX5) (ty := .int) hx hb hts inC_5 hown hV hB 12 (c34 rfl hB) (ceq_12 _ _ _) rfl 9 (Nat.le_of_ble_eq_true rfl) qf_X5_57 tyX5 tyX5_ok nmX5 (cst_12_9 _ _ _ _) rfl pdc_5_9 rfl rfl (Nat.le_of_ble_eq_true rfl) dX5_keepTenth_49 (fun σ7 eσ7 H locs hB => ?_)
      have hf := sq_e hf σ7 eσ7
      obtain ⟨rfl, rfl⟩ := so_e hf
      exact rc_vret hx hb hr hlocks hB dX5_keepTenth_52
theorem cc_X5_keepTenth (l : Launch) (D : va_G) (ad : Nat → Nat) (cy : CY) (z : CZ) (n : Nat) (σ : CS) {r0 : Int32} {σ0 : CS} (hf : fc_X5_keepTenth n σ = some (r0, σ0)) : cM l yX5_keepTenth wn_X5_keepTenth rm_X5_keepTenth D ad cy z [.ref (ad 12)] σ none σ0 :=
  rc_met (ret := none) (by decide) rfl (Nat.le_of_ble_eq_true rfl) (fun p e s m below meth c A ls hc hV hB hl => tbc_X5_keepTenth_0 hc hV n σ hB hl hf)
/-! X5_start -/
theorem kwc_X5_51 {R : Room} {s : State} {args : Array Value} (hts : ∀ w ∈ wsC, w.before args s = true) (hR : rm_J7_fill_53178.frames + 1 ≤ R.frames ∧ 8 + (4 + 11) + rm_J7_fill_53178.locals ≤ R.locals) : CallB R s args RX5 51 yJ7_fill_53178 cJ7_fill_53178 4 none wn_J7_fill_53178 rm_J7_fill_53178 0 0 2 ∧ (Cond.static yJ7_fill_53178).before args s = true := va_cwS 2 hts (gC_s qc_163 qc_164 qc_165 qc_166) rfl rfl rfl (by decide +kernel) hR
theorem kwc_X5_60 {R : Room} {s : State} {args : Array Value} (hts : ∀ w ∈ wsC, w.before args s = true) (hR : rm_X5_keepTenth.frames + 1 ≤ R.frames ∧ 8 + (1 + 11) + rm_X5_keepTenth.locals ≤ R.locals) : CallW R s args RX5 RX5 60 yX5_keepTenth cX5_keepTenth 1 none wn_X5_keepTenth rm_X5_keepTenth 0 0 0 := cwV 0 hts (gC_v qc_167 qc_168 qc_169 qc_14 qc_162) rfl rfl rfl (by decide +kernel) hR
abbrev rm_X5_start : Room := { frames := 1, cells := 0, slots := 0, locals := 23 }
abbrev wn_X5_start : List Cond := .code yX5_start cX5_start 5 none :: wsC
def fc_X5_start (n : Nat) (σ : CS) (x1 : Int32) (x2 : Int32) (x3 : Int32) (x4 : Int32) : Option ((Int32) × CS) := sq (cp σ 12 0 1) (fun σ1 => sq (cp σ1 12 1 x1) (fun σ2 => sq (cp σ2 12 2 x2) (fun σ3 => sq (cp σ3 12 3 x3) (fun σ4 => sq (cp σ4 12 4 x2) (fun σ5 => sq (cp σ5 12 5 x4) (fun σ6 => sq (cp σ6 12 6 0) (fun σ7 => sq (cp σ7 12 7 0) (fun σ8 => sq (cpj σ8 12 0) (fun σ9 => bd (fc_J7_fill_53178 n σ9 0) (fun _ σ11 => sq (cp σ11 12 9 0) (fun σ12 => bd (fc_X5_keepTenth n σ12) (fun _ σ14 => some (0, σ14)))))))))))))
set_option maxRecDepth 100000 in
set_option maxHeartbeats 4000000 in
theorem tbc_X5_start_0 {p : Program} {l : Launch} {e : Env} {s : State} {m : MethodId} {args : Array Value} {below : List Frame} {meth : Method} {c : Code} {D : va_G} {A : Nat → Prop} {ad : Nat → Nat} {cy : CY} {z : CZ} {r0 : Int32} {σ0 : CS} (hc : cxB RX5 wsC cX5_start 5 none p s m args meth c) (hV : cV D cy z A s) (n : Nat) (σ : CS) (x1 : Int32) (x2 : Int32) (x3 : Int32) (x4 : Int32) {H : Heap} {locs : List Loc} {ls : Array Slot} (hB : cB D ad cy A s.heap σ H locs) (hl : lv_has ls 5 [(0, .ref (ad 12)), (1, .int x1), (2, .int x2), (3, .int x3), (4, .int x4)]) (hf : fc_X5_start n σ x1 x2 x3 x4 = some (r0, σ0)) : W p l e rm_X5_start s m args below meth c H locs 0 0 (MQ below (cQ D ad cy A none σ0) args s 0 0 A) (F0 m 0 ls []) := by
  obtain ⟨hx, hb, hml, hown, hts, hr, hlocks⟩ := id hc
  unfold fc_X5_start at hf
  refine lv_aload_n hx hb dX5_start_0 rfl (lv_at hl 0 rfl) ?_
  refine lv_iconst (v := 1) hx hb dX5_start_1 (by decide) ?_
  refine rc_puti (own := RX5) (ty := .boolean) hx hb hts inC_5 hown hV hB 12 (c34 rfl hB) (ceq_12 _ _ _) rfl 0 (Nat.le_of_ble_eq_true rfl) qf_X5_21 tyX5 tyX5_ok nmX5 (cst_12_0 _ _ _ _) rfl pdc_5_0 rfl rfl (Nat.le_of_ble_eq_true rfl) dX5_start_2 (fun σ1 eσ1 H locs hB => ?_)
  have hf := sq_e hf σ1 eσ1
  refine lv_aload_n hx hb dX5_start_5 rfl (lv_at hl 0 rfl) ?_
  refine lv_iload_n hx hb dX5_start_6 rfl (lv_at hl 1 rfl) ?_
  refine rc_puti (own := RX5) (ty := .int) hx hb hts inC_5 hown hV hB 12 (c34 rfl hB) (ceq_12 _ _ _) rfl 1 (Nat.le_of_ble_eq_true rfl) qf_X5_25 tyX5 tyX5_ok nmX5 (cst_12_1 _ _ _ _) rfl pdc_5_1 rfl rfl (Nat.le_of_ble_eq_true rfl) dX5_start_7 (fun σ2 eσ2 H locs hB => ?_)
  have hf := sq_e hf σ2 eσ2
  refine lv_aload_n hx hb dX5_start_10 rfl (lv_at hl 0 rfl) ?_
  refine lv_iload_n hx hb dX5_start_11 rfl (lv_at hl 2 rfl) ?_
  refine rc_puti (own := RX5) (ty := .int) hx hb hts inC_5 hown hV hB 12 (c34 rfl hB) (ceq_12 _ _ _) rfl 2 (Nat.le_of_ble_eq_true rfl) qf_X5_29 tyX5 tyX5_ok nmX5 (cst_12_2 _ _ _ _) rfl pdc_5_2 rfl rfl (Nat.le_of_ble_eq_true rfl) dX5_start_12 (fun σ3 eσ3 H locs hB => ?_)
  have hf := sq_e hf σ3 eσ3
  refine lv_aload_n hx hb dX5_start_15 rfl (lv_at hl 0 rfl) ?_
  refine lv_iload_n hx hb dX5_start_16 rfl (lv_at hl 3 rfl) ?_
  refine rc_puti (own := RX5) (ty := .int) hx hb hts inC_5 hown hV hB 12 (c34 rfl hB) (ceq_12 _ _ _) rfl 3 (Nat.le_of_ble_eq_true rfl) qf_X5_32 tyX5 tyX5_ok nmX5 (cst_12_3 _ _ _ _) rfl pdc_5_3 rfl rfl (Nat.le_of_ble_eq_true rfl) dX5_start_17 (fun σ4 eσ4 H locs hB => ?_)
  have hf := sq_e hf σ4 eσ4
  refine lv_aload_n hx hb dX5_start_20 rfl (lv_at hl 0 rfl) ?_
  refine lv_iload_n hx hb dX5_start_21 rfl (lv_at hl 2 rfl) ?_
  refine rc_puti (own := RX5) (ty := .int) hx hb hts inC_5 hown hV hB 12 (c34 rfl hB) (ceq_12 _ _ _) rfl 4 (Nat.le_of_ble_eq_true rfl) qf_X5_35 tyX5 tyX5_ok nmX5 (cst_12_4 _ _ _ _) rfl pdc_5_4 rfl rfl (Nat.le_of_ble_eq_true rfl) dX5_start_22 (fun σ5 eσ5 H locs hB => ?_)
  have hf := sq_e hf σ5 eσ5
  refine lv_aload_n hx hb dX5_start_25 rfl (lv_at hl 0 rfl) ?_
  refine lv_iload hx hb dX5_start_26 (lv_at hl 4 rfl) ?_
  refine rc_puti (own := RX5) (ty := .int) hx hb hts inC_5 hown hV hB 12 (c34 rfl hB) (ceq_12 _ _ _) rfl 5 (Nat.le_of_ble_eq_true rfl) qf_X5_38 tyX5 tyX5_ok nmX5 (cst_12_5 _ _ _ _) rfl pdc_5_5 rfl rfl (Nat.le_of_ble_eq_true rfl) dX5_start_28 (fun σ6 eσ6 H locs hB => ?_)
  have hf := sq_e hf σ6 eσ6
  refine lv_aload_n hx hb dX5_start_31 rfl (lv_at hl 0 rfl) ?_
  refine lv_iconst (v := 0) hx hb dX5_start_32 (by decide) ?_
  refine rc_puti (own := RX5) (ty := .int) hx hb hts inC_5 hown hV hB 12 (c34 rfl hB) (ceq_12 _ _ _) rfl 6 (Nat.le_of_ble_eq_true rfl) qf_X5_41 tyX5 tyX5_ok nmX5 (cst_12_6 _ _ _ _) rfl pdc_5_6 rfl rfl (Nat.le_of_ble_eq_true rfl) dX5_start_33 (fun σ7 eσ7 H locs hB => ?_)
  have hf := sq_e hf σ7 eσ7
  refine lv_aload_n hx hb dX5_start_36 rfl (lv_at hl 0 rfl) ?_
  refine lv_iconst (v := 0) hx hb dX5_start_37 (by decide) ?_
  refine rc_puti (own := RX5) (ty := .int) hx hb hts inC_5 hown hV hB 12 (c34 rfl hB) (ceq_12 _ _ _) rfl 7 (Nat.le_of_ble_eq_true rfl) qf_X5_44 tyX5 tyX5_ok nmX5 (cst_12_7 _ _ _ _) rfl pdc_5_7 rfl rfl (Nat.le_of_ble_eq_true rfl) dX5_start_38 (fun σ8 eσ8 H locs hB => ?_)
  have hf := sq_e hf σ8 eσ8
  refine lv_aload_n hx hb dX5_start_41 rfl (lv_at hl 0 rfl) ?_
  refine lv_lconst (v := 0) hx hb dX5_start_42 (by decide) ?_
  refine rc_putl (own := RX5) (ty := .long) hx hb hts inC_5 hown hV hB 12 (c34 rfl hB) (ceq_12 _ _ _) rfl 8 (Nat.le_of_ble_eq_true rfl) qf_X5_47 tyX5 tyX5_ok nmX5 (cst_12_8 _ _ _ _) rfl pdc_5_8 rfl rfl (Nat.le_of_ble_eq_true rfl) dX5_start_43 (fun σ9 eσ9 H locs hB => ?_)
  have hf := sq_e hf σ9 eσ9
  refine lv_aload_n hx hb dX5_start_46 rfl (lv_at hl 0 rfl) ?_
  refine rc_get (own := RX5) hx hb hts inC_5 hown hV hB 12 (c34 rfl hB) (ceq_12 _ _ _) rfl 10 (Nat.le_of_ble_eq_true rfl) qf_X5_9 rfl dX5_start_47 ?_
  refine lv_iconst (v := 0) hx hb dX5_start_50 (by decide) ?_
  obtain ⟨r10, σ11, hkr10, hf⟩ := bd_e hf
  refine rc_callS (own := RX5) (av := [.ref (ad 13), .int 0]) (rest := []) (rv := none) hx hb hml hown hts hl.1 hV hB (cc_J7_fill_53178 l D ad cy z n σ9 0 hkr10) (kwc_X5_51  hts ⟨Nat.le_of_ble_eq_true rfl, Nat.le_of_ble_eq_true rfl⟩) rfl rfl (lv_room (Nat.le_of_ble_eq_true rfl)) dX5_start_51 (Nat.le_refl _) (Nat.le_refl _) (fun H locs hB => ?_)
  refine W.eq (g2 := F0 m 54 ls []) rfl ?_
  refine lv_aload_n hx hb dX5_start_54 rfl (lv_at hl 0 rfl) ?_
  refine lv_iconst (v := 0) hx hb dX5_start_55 (by decide) ?_
  refine rc_puti (own := RX5) (ty := .int) hx hb hts inC_5 hown hV hB 12 (c34 rfl hB) (ceq_12 _ _ _) rfl 9 (Nat.le_of_ble_eq_true rfl) qf_X5_57 tyX5 tyX5_ok nmX5 (cst_12_9 _ _ _ _) rfl pdc_5_9 rfl rfl (Nat.le_of_ble_eq_true rfl) dX5_start_56 (fun σ12 eσ12 H locs hB => ?_)
  have hf := sq_e hf σ12 eσ12
  refine lv_aload_n hx hb dX5_start_59 rfl (lv_at hl 0 rfl) ?_
  obtain ⟨r13, σ14, hkr13, hf⟩ := bd_e hf
  refine rc_callV (own := RX5) (av := []) (rest := []) (rv := none) hx hb hml hown hts hl.1 hV hB 12 (c34 rfl hB) (ceq_12 _ _ _) rfl (cc_X5_keepTenth l D ad cy z n σ12 hkr13) (kwc_X5_60  hts ⟨Nat.le_of_ble_eq_true rfl, Nat.le_of_ble_eq_true rfl⟩) rfl rfl (lv_room (Nat.le_of_ble_eq_true rfl)) dX5_start_60 (Nat.le_refl _) (Nat.le_refl _) (fun H locs hB => ?_)
  refine W.eq (g2 := F0 m 63 ls []) rfl ?_
  obtain ⟨rfl, rfl⟩ := so_e hf
  exact rc_vret hx hb hr hlocks hB dX5_start_63
theorem cc_X5_start (l : Launch) (D : va_G) (ad : Nat → Nat) (cy : CY) (z : CZ) (n : Nat) (σ : CS) (x1 : Int32) (x2 : Int32) (x3 : Int32) (x4 : Int32) {r0 : Int32} {σ0 : CS} (hf : fc_X5_start n σ x1 x2 x3 x4 = some (r0, σ0)) : cM l yX5_start wn_X5_start rm_X5_start D ad cy z [.ref (ad 12), .int x1, .int x2, .int x3, .int x4] σ none σ0 :=
  rc_met (ret := none) (by decide) rfl (Nat.le_of_ble_eq_true rfl) (fun p e s m below meth c A ls hc hV hB hl => tbc_X5_start_0 hc hV n σ x1 x2 x3 x4 hB hl hf)
/-! X5_countParts -/
abbrev rm_X5_countParts : Room := { frames := 1, cells := 0, slots := 0, locals := 60 }
abbrev wn_X5_countParts : List Cond := .code yX5_countParts cX5_countParts 5 none :: wsC
def bc_X5_countParts_7 (n : Nat) (K7 : CS → Int32 → Int32 → Option ((Int32) × CS)) (σ : CS) (x2 : Int32) (x3 : Int32) : Option ((Int32) × CS) := if ((Int32.ofNat 8) ≤ x3) then (some (0, σ)) else (if ((Int32.ofNat 8) ≤ x3) then (some (0, σ)) else (ck (ib x3 8) (sq ((σ.1 33 (Int32.toNatClampNeg x3)) : Int32) (fun y4 => sq (if y4 < x2 then y4 else x2 : Int32) (fun y5 => ck (ib x3 8) (sq ((σ.1 13 (Int32.toNatClampNeg x3)) : Int32) (fun y7 => ck (ib x3 8) (sq (cp σ 13 (Int32.toNatClampNeg x3) (y7 + y5)) (fun σ9 => sq ((x2 - y5) : Int32) (fun y10 => sq (x3 + 1 : Int32) (fun y11 => K7 σ9 y10 y11)))))))))))
set_option maxRecDepth 100000 in
set_option maxHeartbeats 4000000 in
theorem tbc_X5_countParts_7 {p : Program} {l : Launch} {e : Env} {s : State} {m : MethodId} {args : Array Value} {below : List Frame} {meth : Method} {c : Code} {D : va_G} {A : Nat → Prop} {ad : Nat → Nat} {cy : CY} {z : CZ} {r0 : Int32} {σ0 : CS} (hc : cxB RX5 wsC cX5_countParts 5 none p s m args meth c) (hV : cV D cy z A s) (n : Nat) (K7 : CS → Int32 → Int32 → Option ((Int32) × CS)) (hK7 : ∀ (σ : CS) (x2 : Int32) (x3 : Int32) (H : Heap) (locs : List Loc) (ls : Array Slot), cB D ad cy A s.heap σ H locs → lv_has ls 5 [(0, .ref (ad 12)), (1, .ref (ad 33)), (2, .int x2), (3, .int x3)] → K7 σ x2 x3 = some (r0, σ0) → W p l e rm_X5_countParts s m args below meth c H locs 0 0 (MQ below (cQ D ad cy A none σ0) args s 0 0 A) (F0 m 7 ls [])) (σ : CS) (x2 : Int32) (x3 : Int32) {H : Heap} {locs : List Loc} {ls : Array Slot} (hB : cB D ad cy A s.heap σ H locs) (hl : lv_has ls 5 [(0, .ref (ad 12)), (1, .ref (ad 33)), (2, .int x2), (3, .int x3)]) (hf : bc_X5_countParts_7 n K7 σ x2 x3 = some (r0, σ0)) : W p l e rm_X5_countParts s m args below meth c H locs 0 0 (MQ below (cQ D ad cy A none σ0) args s 0 0 A) (F0 m 7 ls []) := by
  obtain ⟨hx, hb, hml, hown, hts, hr, hlocks⟩ := id hc
  unfold bc_X5_countParts_7 at hf
  refine lv_iload_n hx hb dX5_countParts_7 rfl (lv_at hl 3 rfl) ?_
  refine lv_aload_n hx hb dX5_countParts_8 rfl (lv_at hl 0 rfl) ?_
  refine rc_get (own := RX5) hx hb hts inC_5 hown hV hB 12 (c34 rfl hB) (ceq_12 _ _ _) rfl 10 (Nat.le_of_ble_eq_true rfl) qf_X5_9 rfl dX5_countParts_9 ?_
  refine rc_alen hx hb hV hB 13 (c34 rfl hB) (ceq_13 _ _ _) rfl dX5_countParts_12 ?_
  refine lv_icmp_ge (tgt := 53) hx hb dX5_countParts_13 (by decide) (fun c1 => ?_) (fun c1 => ?_)
  · have hf := it_t hf c1
    obtain ⟨rfl, rfl⟩ := so_e hf
    exact rc_vret hx hb hr hlocks hB dX5_countParts_53
  · have hf := it_f hf c1
    refine lv_iload_n hx hb dX5_countParts_16 rfl (lv_at hl 3 rfl) ?_
    refine lv_aload_n hx hb dX5_countParts_17 rfl (lv_at hl 1 rfl) ?_
    refine rc_alen hx hb hV hB 33 (c34 rfl hB) (ceq_33 _ _ _) rfl dX5_countParts_18 ?_
    refine lv_icmp_ge (tgt := 53) hx hb dX5_countParts_19 (by decide) (fun c2 => ?_) (fun c2 => ?_)
    · have hf := it_t hf c2
      obtain ⟨rfl, rfl⟩ := so_e hf
      exact rc_vret hx hb hr hlocks hB dX5_countParts_53
    · have hf := it_f hf c2
      refine lv_iload_n hx hb dX5_countParts_22 rfl (lv_at hl 2 rfl) ?_
      refine lv_aload_n hx hb dX5_countParts_23 rfl (lv_at hl 1 rfl) ?_
      refine lv_iload_n hx hb dX5_countParts_24 rfl (lv_at hl 3 rfl) ?_
      obtain ⟨k3, hf⟩ := ck_e hf
      refine rc_ald hx hb hV hB 33 (c34 rfl hB) (ceq_33 _ _ _) k3 dX5_countParts_25 ?_
      refine lv_topi (fun y4 ey4 => ?_)
      have hf := sq_e hf y4 ey4
      refine va_mmin hx hb (hml.trans hl.1.symm) hown (hts _ qc_171) (hts _ qc_68) (hts _ qc_69) (hts _ qc_70) (Nat.le_of_ble_eq_true rfl) (Nat.le_of_ble_eq_true rfl) (Nat.le_refl _) (Nat.le_refl _) dX5_countParts_26 ?_
      refine lv_topi (fun y5 ey5 => ?_)
      have hf := sq_e hf y5 ey5
      refine lv_istore (lv' := [(4, .int y5), (0, .ref (ad 12)), (1, .ref (ad 33)), (2, .int x2), (3, .int x3)]) hx hb dX5_countParts_29 hl (by decide) rfl (fun ls hl => ?_)
      refine lv_aload_n hx hb dX5_countParts_31 rfl (lv_at hl 1 rfl) ?_
      refine rc_get (own := RX5) hx hb hts inC_5 hown hV hB 12 (c34 rfl hB) (ceq_12 _ _ _) rfl 10 (Nat.le_of_ble_eq_true rfl) qf_X5_9 rfl dX5_countParts_32 ?_
      refine lv_iload_n hx hb dX5_countParts_35 rfl (lv_at hl 4 rfl) ?_
      refine lv_dup2_11 hx hb dX5_countParts_36 rfl rfl ?_
      obtain ⟨k6, hf⟩ := ck_e hf
      refine rc_ald hx hb hV hB 13 (c34 rfl hB) (ceq_13 _ _ _) k6 dX5_countParts_37 ?_
      refine lv_topi (fun y7 ey7 => ?_)
      have hf := sq_e hf y7 ey7
      refine lv_iload hx hb dX5_countParts_38 (lv_at hl 0 rfl) ?_
      refine lv_iadd hx hb dX5_countParts_40 ?_
      obtain ⟨k8, hf⟩ := ck_e hf
      refine rc_ast hx hb hV hB 13 (c34 rfl hB) (ceq_13 _ _ _) (fun _ => rfl) k8 dX5_countParts_41 (fun σ9 eσ9 H locs hB => ?_)
      have hf := sq_e hf σ9 eσ9
      refine lv_iload_n hx hb dX5_countParts_42 rfl (lv_at hl 3 rfl) ?_
      refine lv_iload hx hb dX5_countParts_43 (lv_at hl 0 rfl) ?_
      refine lv_isub hx hb dX5_countParts_45 ?_
      refine lv_topi (fun y10 ey10 => ?_)
      have hf := sq_e hf y10 ey10
      refine lv_istore_n (lv' := [(2, .int y10), (4, .int y5), (0, .ref (ad 12)), (1, .ref (ad 33)), (3, .int x3)]) hx hb dX5_countParts_46 rfl hl (by decide) rfl (fun ls hl => ?_)
      obtain ⟨y11, ey11⟩ : ∃ z : Int32, z = x3 + 1 := ⟨_, rfl⟩
      have hf := sq_e hf y11 ey11
      refine lv_iinc (v := y11) (lv' := [(3, .int y11), (2, .int y10), (4, .int y5), (0, .ref (ad 12)), (1, .ref (ad 33))]) hx hb dX5_countParts_47 hl (k := 4) rfl (by rw [ey11]; rfl) (by decide) rfl (fun ls hl => ?_)
      refine lv_goto (tgt := 7) hx hb dX5_countParts_50 (by decide) ?_
      exact hK7 σ9 y10 y11 _ _ _ hB (lv_sub hl [3, 4, 1, 0] rfl) hf
def lc_X5_countParts_7 (n : Nat) : Nat → CS → Int32 → Int32 → Option ((Int32) × CS)
  | 0 => fun _ _ _ => none
  | k + 1 => bc_X5_countParts_7 n (lc_X5_countParts_7 n k)
theorem tlc_X5_countParts_7 {p : Program} {l : Launch} {e : Env} {s : State} {m : MethodId} {args : Array Value} {below : List Frame} {meth : Method} {c : Code} {D : va_G} {A : Nat → Prop} {ad : Nat → Nat} {cy : CY} {z : CZ} {r0 : Int32} {σ0 : CS} (hc : cxB RX5 wsC cX5_countParts 5 none p s m args meth c) (hV : cV D cy z A s) (n : Nat) : ∀ (k : Nat) (σ : CS) (x2 : Int32) (x3 : Int32) (H : Heap) (locs : List Loc) (ls : Array Slot), cB D ad cy A s.heap σ H locs → lv_has ls 5 [(0, .ref (ad 12)), (1, .ref (ad 33)), (2, .int x2), (3, .int x3)] → lc_X5_countParts_7 n k σ x2 x3 = some (r0, σ0) → W p l e rm_X5_countParts s m args below meth c H locs 0 0 (MQ below (cQ D ad cy A none σ0) args s 0 0 A) (F0 m 7 ls []) := by
  intro k
  induction k with
  | zero =>
    intro σ x2 x3 H locs ls hB hl hf
    have hf : (none : Option ((Int32) × CS)) = some (r0, σ0) := hf
    cases hf
  | succ k ih =>
    intro σ x2 x3 H locs ls hB hl hf
    exact tbc_X5_countParts_7 hc hV n (lc_X5_countParts_7 n k) ih σ x2 x3 hB hl hf
def fc_X5_countParts (n : Nat) (σ : CS) : Option ((Int32) × CS) := sq ((σ.1 12 4) : Int32) (fun y1 => sq (0 : Int32) (fun y2 => lc_X5_countParts_7 n n σ y1 y2))
set_option maxRecDepth 100000 in
set_option maxHeartbeats 4000000 in
theorem tbc_X5_countParts_0 {p : Program} {l : Launch} {e : Env} {s : State} {m : MethodId} {args : Array Value} {below : List Frame} {meth : Method} {c : Code} {D : va_G} {A : Nat → Prop} {ad : Nat → Nat} {cy : CY} {z : CZ} {r0 : Int32} {σ0 : CS} (hc : cxB RX5 wsC cX5_countParts 5 none p s m args meth c) (hV : cV D cy z A s) (n : Nat) (σ : CS) {H : Heap} {locs : List Loc} {ls : Array Slot} (hB : cB D ad cy A s.heap σ H locs) (hl : lv_has ls 5 [(0, .ref (ad 12)), (1, .ref (ad 33))]) (hf : fc_X5_countParts n σ = some (r0, σ0)) : W p l e rm_X5_countParts s m args below meth c H locs 0 0 (MQ below (cQ D ad cy A none σ0) args s 0 0 A) (F0 m 0 ls []) := by
  obtain ⟨hx, hb, hml, hown, hts, hr, hlocks⟩ := id hc
  unfold fc_X5_countParts at hf
  refine lv_aload_n hx hb dX5_countParts_0 rfl (lv_at hl 0 rfl) ?_
  refine rc_get (own := RX5) hx hb hts inC_5 hown hV hB 12 (c34 rfl hB) (ceq_12 _ _ _) rfl 4 (Nat.le_of_ble_eq_true rfl) qf_X5_35 rfl dX5_countParts_1 ?_
  refine lv_topi (fun y1 ey1 => ?_)
  have hf := sq_e hf y1 ey1
  refine lv_istore_n (lv' := [(2, .int y1), (0, .ref (ad 12)), (1, .ref (ad 33))]) hx hb dX5_countParts_4 rfl hl (by decide) rfl (fun ls hl => ?_)
  refine lv_iconst (v := 0) hx hb dX5_countParts_5 (by decide) ?_
  refine lv_topi (fun y2 ey2 => ?_)
  have hf := sq_e hf y2 ey2
  refine lv_istore_n (lv' := [(3, .int y2), (2, .int y1), (0, .ref (ad 12)), (1, .ref (ad 33))]) hx hb dX5_countParts_6 rfl hl (by decide) rfl (fun ls hl => ?_)
  exact tlc_X5_countParts_7 hc hV n n σ y1 y2 _ _ _ hB (lv_sub hl [2, 3, 1, 0] rfl) hf
theorem cc_X5_countParts (l : Launch) (D : va_G) (ad : Nat → Nat) (cy : CY) (z : CZ) (n : Nat) (σ : CS) {r0 : Int32} {σ0 : CS} (hf : fc_X5_countParts n σ = some (r0, σ0)) : cM l yX5_countParts wn_X5_countParts rm_X5_countParts D ad cy z [.ref (ad 12), .ref (ad 33)] σ none σ0 :=
  rc_met (ret := none) (by decide) rfl (Nat.le_of_ble_eq_true rfl) (fun p e s m below meth c A ls hc hV hB hl => tbc_X5_countParts_0 hc hV n σ hB hl hf)
