/-! X7_parts -/
abbrev rm_X7_parts : Room := { frames := 6, cells := 0, slots := 0, locals := 182 }
abbrev wn_X7_parts : List Cond := .code yX7_parts cX7_parts 11 (some .int) :: wsC
def bc_X7_parts_103 (n : Nat) (K85 : CS → Int32 → Int32 → Int32 → Int32 → Int32 → Int32 → Int32 → Int32 → Option ((Int32) × CS)) (σ : CS) (x1 : Int32) (x2 : Int32) (x3 : Int32) (x4 : Int32) (x5 : Int32) (x6 : Int32) (x7 : Int32) (x8 : Int32) (t0 : Int32) : Option ((Int32) × CS) := bd (fc_X7_ticksAhead n σ x8 x1 t0) (fun r1 σ2 => bd (fc_X7_ticksAhead n σ2 x8 x2 t0) (fun r3 σ4 => sq (if 0 ≤ (r1 - r3) then (r1 - r3) else 0 - (r1 - r3) : Int32) (fun y5 => if (y5 ≤ x7) then (sq (x8 + 1 : Int32) (fun y7 => K85 σ4 x1 x2 x3 x4 x5 x6 x7 y7)) else (sq (x8 + 1 : Int32) (fun y8 => K85 σ4 x1 x2 x3 x4 x5 x8 y5 y8)))))
set_option maxRecDepth 100000 in
set_option maxHeartbeats 4000000 in
theorem tbc_X7_parts_103 {p : Program} {l : Launch} {e : Env} {s : State} {m : MethodId} {args : Array Value} {below : List Frame} {meth : Method} {c : Code} {D : va_G} {A : Nat → Prop} {ad : Nat → Nat} {cy : CY} {z : CZ} {r0 : Int32} {σ0 : CS} (hc : cxB RX7 wsC cX7_parts 11 (some .int) p s m args meth c) (hV : cV D cy z A s) (n : Nat) (K85 : CS → Int32 → Int32 → Int32 → Int32 → Int32 → Int32 → Int32 → Int32 → Option ((Int32) × CS)) (hK85 : ∀ (σ : CS) (x1 : Int32) (x2 : Int32) (x3 : Int32) (x4 : Int32) (x5 : Int32) (x6 : Int32) (x7 : Int32) (x8 : Int32) (H : Heap) (locs : List Loc) (ls : Array Slot), cB D ad cy A s.heap σ H locs → lv_has ls 11 [(0, .ref (ad 0)), (1, .int x1), (2, .int x2), (3, .int x3), (4, .int x4), (5, .int x5), (6, .int x6), (7, .int x7), (8, .int x8)] → K85 σ x1 x2 x3 x4 x5 x6 x7 x8 = some (r0, σ0) → W p l e rm_X7_parts s m args below meth c H locs 0 0 (MQ below (cQ D ad cy A (some (.int r0)) σ0) args s 0 0 A) (F0 m 85 ls [])) (σ : CS) (x1 : Int32) (x2 : Int32) (x3 : Int32) (x4 : Int32) (x5 : Int32) (x6 : Int32) (x7 : Int32) (x8 : Int32) (t0 : Int32) {H : Heap} {locs : List Loc} {ls : Array Slot} (hB : cB D ad cy A s.heap σ H locs) (hl : lv_has ls 11 [(0, .ref (ad 0)), (1, .int x1), (2, .int x2), (3, .int x3), (4, .int x4), (5, .int x5), (6, .int x6), (7, .int x7), (8, .int x8)]) (hf : bc_X7_parts_103 n K85 σ x1 x2 x3 x4 x5 x6 x7 x8 t0 = some (r0, σ0)) : W p l e rm_X7_parts s m args below meth c H locs 0 0 (MQ below (cQ D ad cy A (some (.int r0)) σ0) args s 0 0 A) (F0 m 103 ls [.int t0]) := by
  obtain ⟨hx, hb, hml, hown, hts, hr, hlocks⟩ := id hc
  unfold bc_X7_parts_103 at hf
  refine lv_istore (lv' := [(9, .int t0), (0, .ref (ad 0)), (1, .int x1), (2, .int x2), (3, .int x3), (4, .int x4), (5, .int x5), (6, .int x6), (7, .int x7), (8, .int x8)]) hx hb dX7_parts_103 hl (by decide) rfl (fun ls hl => ?_)
  refine lv_aload_n hx hb dX7_parts_105 rfl (lv_at hl 1 rfl) ?_
  refine lv_iload hx hb dX7_parts_106 (lv_at hl 9 rfl) ?_
  refine lv_iload_n hx hb dX7_parts_108 rfl (lv_at hl 2 rfl) ?_
  refine lv_iload hx hb dX7_parts_109 (lv_at hl 0 rfl) ?_
  obtain ⟨r1, σ2, hkr1, hf⟩ := bd_e hf
  refine rc_callV (own := RX7) (av := [.int x8, .int x1, .int t0]) (rest := []) (rv := (some (.int r1))) hx hb hml hown hts hl.1 hV hB 0 (c34 rfl hB) (ceq_0 _ _ _) rfl (cc_X7_ticksAhead l D ad cy z n σ x8 x1 t0 hkr1) (kwc_X7_242  hts ⟨Nat.le_of_ble_eq_true rfl, Nat.le_of_ble_eq_true rfl⟩) rfl rfl (lv_room (Nat.le_of_ble_eq_true rfl)) dX7_parts_111 (Nat.le_refl _) (Nat.le_refl _) (fun H locs hB => ?_)
  refine W.eq (g2 := F0 m 114 ls [.int r1]) rfl ?_
  refine lv_aload_n hx hb dX7_parts_114 rfl (lv_at hl 1 rfl) ?_
  refine lv_iload hx hb dX7_parts_115 (lv_at hl 9 rfl) ?_
  refine lv_iload_n hx hb dX7_parts_117 rfl (lv_at hl 3 rfl) ?_
  refine lv_iload hx hb dX7_parts_118 (lv_at hl 0 rfl) ?_
  obtain ⟨r3, σ4, hkr3, hf⟩ := bd_e hf
  refine rc_callV (own := RX7) (av := [.int x8, .int x2, .int t0]) (rest := [.int r1]) (rv := (some (.int r3))) hx hb hml hown hts hl.1 hV hB 0 (c34 rfl hB) (ceq_0 _ _ _) rfl (cc_X7_ticksAhead l D ad cy z n σ2 x8 x2 t0 hkr3) (kwc_X7_242  hts ⟨Nat.le_of_ble_eq_true rfl, Nat.le_of_ble_eq_true rfl⟩) rfl rfl (lv_room (Nat.le_of_ble_eq_true rfl)) dX7_parts_120 (Nat.le_refl _) (Nat.le_refl _) (fun H locs hB => ?_)
  refine W.eq (g2 := F0 m 123 ls [.int r3, .int r1]) rfl ?_
  refine lv_isub hx hb dX7_parts_123 ?_
  refine va_mabs hx hb (hml.trans hl.1.symm) hown (hts _ qc_505) (hts _ qc_141) (hts _ qc_69) (hts _ qc_142) (Nat.le_of_ble_eq_true rfl) (Nat.le_of_ble_eq_true rfl) (Nat.le_refl _) (Nat.le_refl _) dX7_parts_124 ?_
  refine lv_topi (fun y5 ey5 => ?_)
  have hf := sq_e hf y5 ey5
  refine lv_istore (lv' := [(10, .int y5), (9, .int t0), (0, .ref (ad 0)), (1, .int x1), (2, .int x2), (3, .int x3), (4, .int x4), (5, .int x5), (6, .int x6), (7, .int x7), (8, .int x8)]) hx hb dX7_parts_127 hl (by decide) rfl (fun ls hl => ?_)
  refine lv_iload hx hb dX7_parts_129 (lv_at hl 0 rfl) ?_
  refine lv_iload hx hb dX7_parts_131 (lv_at hl 9 rfl) ?_
  refine lv_icmp_le (tgt := 144) hx hb dX7_parts_133 (by decide) (fun c6 => ?_) (fun c6 => ?_)
  · have hf := it_t hf c6
    obtain ⟨y7, ey7⟩ : ∃ z : Int32, z = x8 + 1 := ⟨_, rfl⟩
    have hf := sq_e hf y7 ey7
    refine lv_iinc (v := y7) (lv' := [(8, .int y7), (10, .int y5), (9, .int t0), (0, .ref (ad 0)), (1, .int x1), (2, .int x2), (3, .int x3), (4, .int x4), (5, .int x5), (6, .int x6), (7, .int x7)]) hx hb dX7_parts_144 hl (k := 10) rfl (by rw [ey7]; rfl) (by decide) rfl (fun ls hl => ?_)
    refine lv_goto (tgt := 85) hx hb dX7_parts_147 (by decide) ?_
    exact hK85 σ4 x1 x2 x3 x4 x5 x6 x7 y7 _ _ _ hB (lv_sub hl [3, 4, 5, 6, 7, 8, 9, 10, 0] rfl) hf
  · have hf := it_f hf c6
    refine lv_iload hx hb dX7_parts_136 (lv_at hl 0 rfl) ?_
    refine lv_istore (lv' := [(7, .int y5), (10, .int y5), (9, .int t0), (0, .ref (ad 0)), (1, .int x1), (2, .int x2), (3, .int x3), (4, .int x4), (5, .int x5), (6, .int x6), (8, .int x8)]) hx hb dX7_parts_138 hl (by decide) rfl (fun ls hl => ?_)
    refine lv_iload hx hb dX7_parts_140 (lv_at hl 10 rfl) ?_
    refine lv_istore (lv' := [(6, .int x8), (7, .int y5), (10, .int y5), (9, .int t0), (0, .ref (ad 0)), (1, .int x1), (2, .int x2), (3, .int x3), (4, .int x4), (5, .int x5), (8, .int x8)]) hx hb dX7_parts_142 hl (by decide) rfl (fun ls hl => ?_)
    obtain ⟨y8, ey8⟩ : ∃ z : Int32, z = x8 + 1 := ⟨_, rfl⟩
    have hf := sq_e hf y8 ey8
    refine lv_iinc (v := y8) (lv' := [(8, .int y8), (6, .int x8), (7, .int y5), (10, .int y5), (9, .int t0), (0, .ref (ad 0)), (1, .int x1), (2, .int x2), (3, .int x3), (4, .int x4), (5, .int x5)]) hx hb dX7_parts_144 hl (k := 10) rfl (by rw [ey8]; rfl) (by decide) rfl (fun ls hl => ?_)
    refine lv_goto (tgt := 85) hx hb dX7_parts_147 (by decide) ?_
    exact hK85 σ4 x1 x2 x3 x4 x5 x8 y5 y8 _ _ _ hB (lv_sub hl [5, 6, 7, 8, 9, 10, 1, 2, 0] rfl) hf
def bc_X7_parts_85 (n : Nat) (K85 : CS → Int32 → Int32 → Int32 → Int32 → Int32 → Int32 → Int32 → Int32 → Option ((Int32) × CS)) (σ : CS) (x1 : Int32) (x2 : Int32) (x3 : Int32) (x4 : Int32) (x5 : Int32) (x6 : Int32) (x7 : Int32) (x8 : Int32) : Option ((Int32) × CS) := if (4 < x8) then (if (x5 = 0) then (some (x6, σ)) else (some (x7, σ))) else (if (x8 = 2) then (bc_X7_parts_103 n K85 σ x1 x2 x3 x4 x5 x6 x7 x8 x3) else (bc_X7_parts_103 n K85 σ x1 x2 x3 x4 x5 x6 x7 x8 x4))
set_option maxRecDepth 100000 in
set_option maxHeartbeats 4000000 in
theorem tbc_X7_parts_85 {p : Program} {l : Launch} {e : Env} {s : State} {m : MethodId} {args : Array Value} {below : List Frame} {meth : Method} {c : Code} {D : va_G} {A : Nat → Prop} {ad : Nat → Nat} {cy : CY} {z : CZ} {r0 : Int32} {σ0 : CS} (hc : cxB RX7 wsC cX7_parts 11 (some .int) p s m args meth c) (hV : cV D cy z A s) (n : Nat) (K85 : CS → Int32 → Int32 → Int32 → Int32 → Int32 → Int32 → Int32 → Int32 → Option ((Int32) × CS)) (hK85 : ∀ (σ : CS) (x1 : Int32) (x2 : Int32) (x3 : Int32) (x4 : Int32) (x5 : Int32) (x6 : Int32) (x7 : Int32) (x8 : Int32) (H : Heap) (locs : List Loc) (ls : Array Slot), cB D ad cy A s.heap σ H locs → lv_has ls 11 [(0, .ref (ad 0)), (1, .int x1), (2, .int x2), (3, .int x3), (4, .int x4), (5, .int x5), (6, .int x6), (7, .int x7), (8, .int x8)] → K85 σ x1 x2 x3 x4 x5 x6 x7 x8 = some (r0, σ0) → W p l e rm_X7_parts s m args below meth c H locs 0 0 (MQ below (cQ D ad cy A (some (.int r0)) σ0) args s 0 0 A) (F0 m 85 ls [])) (σ : CS) (x1 : Int32) (x2 : Int32) (x3 : Int32) (x4 : Int32) (x5 : Int32) (x6 : Int32) (x7 : Int32) (x8 : Int32) {H : Heap} {locs : List Loc} {ls : Array Slot} (hB : cB D ad cy A s.heap σ H locs) (hl : lv_has ls 11 [(0, .ref (ad 0)), (1, .int x1), (2, .int x2), (3, .int x3), (4, .int x4), (5, .int x5), (6, .int x6), (7, .int x7), (8, .int x8)]) (hf : bc_X7_parts_85 n K85 σ x1 x2 x3 x4 x5 x6 x7 x8 = some (r0, σ0)) : W p l e rm_X7_parts s m args below meth c H locs 0 0 (MQ below (cQ D ad cy A (some (.int r0)) σ0) args s 0 0 A) (F0 m 85 ls []) := by
  obtain ⟨hx, hb, hml, hown, hts, hr, hlocks⟩ := id hc
  unfold bc_X7_parts_85 at hf
  refine lv_iload hx hb dX7_parts_85 (lv_at hl 8 rfl) ?_
  refine lv_iconst (v := 4) hx hb dX7_parts_87 (by decide) ?_
  refine lv_icmp_gt (tgt := 150) hx hb dX7_parts_88 (by decide) (fun c1 => ?_) (fun c1 => ?_)
  · have hf := it_t hf c1
    refine lv_iload hx hb dX7_parts_150 (lv_at hl 5 rfl) ?_
    refine lv_if_ne (tgt := 160) hx hb dX7_parts_152 (by decide) (fun c2 => ?_) (fun c2 => ?_)
    · have hf := it_f hf c2
      refine lv_iload hx hb dX7_parts_160 (lv_at hl 7 rfl) ?_
      obtain ⟨rfl, rfl⟩ := so_e hf
      exact rc_iret hx hb hr hlocks hB dX7_parts_162
    · have hf := it_t hf c2
      refine lv_iload hx hb dX7_parts_155 (lv_at hl 6 rfl) ?_
      refine lv_goto (tgt := 162) hx hb dX7_parts_157 (by decide) ?_
      obtain ⟨rfl, rfl⟩ := so_e hf
      exact rc_iret hx hb hr hlocks hB dX7_parts_162
  · have hf := it_f hf c1
    refine lv_iload hx hb dX7_parts_91 (lv_at hl 8 rfl) ?_
    refine lv_iconst (v := 2) hx hb dX7_parts_93 (by decide) ?_
    refine lv_icmp_ne (tgt := 101) hx hb dX7_parts_94 (by decide) (fun c3 => ?_) (fun c3 => ?_)
    · have hf := it_f hf c3
      refine lv_iload hx hb dX7_parts_101 (lv_at hl 4 rfl) ?_
      exact tbc_X7_parts_103 hc hV n K85 hK85 σ x1 x2 x3 x4 x5 x6 x7 x8 x4 hB (lv_sub hl [0, 1, 2, 3, 4, 5, 6, 7, 8] rfl) hf
    · have hf := it_t hf c3
      refine lv_iload_n hx hb dX7_parts_97 rfl (lv_at hl 3 rfl) ?_
      refine lv_goto (tgt := 103) hx hb dX7_parts_98 (by decide) ?_
      exact tbc_X7_parts_103 hc hV n K85 hK85 σ x1 x2 x3 x4 x5 x6 x7 x8 x3 hB (lv_sub hl [0, 1, 2, 3, 4, 5, 6, 7, 8] rfl) hf
def lc_X7_parts_85 (n : Nat) : Nat → CS → Int32 → Int32 → Int32 → Int32 → Int32 → Int32 → Int32 → Int32 → Option ((Int32) × CS)
  | 0 => fun _ _ _ _ _ _ _ _ _ => none
  | k + 1 => bc_X7_parts_85 n (lc_X7_parts_85 n k)
theorem tlc_X7_parts_85 {p : Program} {l : Launch} {e : Env} {s : State} {m : MethodId} {args : Array Value} {below : List Frame} {meth : Method} {c : Code} {D : va_G} {A : Nat → Prop} {ad : Nat → Nat} {cy : CY} {z : CZ} {r0 : Int32} {σ0 : CS} (hc : cxB RX7 wsC cX7_parts 11 (some .int) p s m args meth c) (hV : cV D cy z A s) (n : Nat) : ∀ (k : Nat) (σ : CS) (x1 : Int32) (x2 : Int32) (x3 : Int32) (x4 : Int32) (x5 : Int32) (x6 : Int32) (x7 : Int32) (x8 : Int32) (H : Heap) (locs : List Loc) (ls : Array Slot), cB D ad cy A s.heap σ H locs → lv_has ls 11 [(0, .ref (ad 0)), (1, .int x1), (2, .int x2), (3, .int x3), (4, .int x4), (5, .int x5), (6, .int x6), (7, .int x7), (8, .int x8)] → lc_X7_parts_85 n k σ x1 x2 x3 x4 x5 x6 x7 x8 = some (r0, σ0) → W p l e rm_X7_parts s m args below meth c H locs 0 0 (MQ below (cQ D ad cy A (some (.int r0)) σ0) args s 0 0 A) (F0 m 85 ls []) := by
  intro k
  induction k with
  | zero =>
    intro σ x1 x2 x3 x4 x5 x6 x7 x8 H locs ls hB hl hf
    have hf : (none : Option ((Int32) × CS)) = some (r0, σ0) := hf
    cases hf
  | succ k ih =>
    intro σ x1 x2 x3 x4 x5 x6 x7 x8 H locs ls hB hl hf
    exact tbc_X7_parts_85 hc hV n (lc_X7_parts_85 n k) ih σ x1 x2 x3 x4 x5 x6 x7 x8 hB hl hf
def fc_X7_parts (n : Nat) (σ : CS) (x1 : Int32) (x2 : Int32) (x3 : Int32) (x4 : Int32) (x5 : Int32) : Option ((Int32) × CS) := bd (fc_X7_isSet n σ x1) (fun r1 σ2 => if (r1 = 0) then (bd (fc_X7_refuse n σ2 (-1)) (fun r4 σ5 => some (r4, σ5))) else (bd (fc_X7_isSet n σ2 x2) (fun r6 σ7 => if (r6 = 0) then (bd (fc_X7_refuse n σ7 (-1)) (fun r9 σ10 => some (r9, σ10))) else (bd (fc_X0_plateAt n σ7 x3) (fun r11 σ12 => oc r11 (bd (fc_X7_refuse n σ12 (-1)) (fun r14 σ15 => some (r14, σ15))) (fun q13 => bd (fc_X7_isFloor n σ12 x4) (fun r16 σ17 => if (r16 = 0) then (bd (fc_X7_refuse n σ17 (-1)) (fun r30 σ31 => some (r30, σ31))) else (bd (fc_X7_isZeroOrOne n σ17 x5) (fun r19 σ20 => if (r19 = 0) then (bd (fc_X7_refuse n σ20 (-2)) (fun r28 σ29 => some (r28, σ29))) else (if ((σ20.1 12 0) = 0) then (bd (fc_X7_refuse n σ20 (-3)) (fun r26 σ27 => some (r26, σ27))) else (sq (0 : Int32) (fun y23 => sq ((-1) : Int32) (fun y24 => sq (0 : Int32) (fun y25 => lc_X7_parts_85 n n σ20 x1 x2 x3 x4 x5 y23 y24 y25))))))))))))))
set_option maxRecDepth 100000 in
set_option maxHeartbeats 4000000 in
theorem tbc_X7_parts_0 {p : Program} {l : Launch} {e : Env} {s : State} {m : MethodId} {args : Array Value} {below : List Frame} {meth : Method} {c : Code} {D : va_G} {A : Nat → Prop} {ad : Nat → Nat} {cy : CY} {z : CZ} {r0 : Int32} {σ0 : CS} (hc : cxB RX7 wsC cX7_parts 11 (some .int) p s m args meth c) (hV : cV D cy z A s) (n : Nat) (σ : CS) (x1 : Int32) (x2 : Int32) (x3 : Int32) (x4 : Int32) (x5 : Int32) {H : Heap} {locs : List Loc} {ls : Array Slot} (hB : cB D ad cy A s.heap σ H locs) (hl : lv_has ls 11 [(0, .ref (ad 0)), (1, .int x1), (2, .int x2), (3, .int x3), (4, .int x4), (5, .int x5)]) (hf : fc_X7_parts n σ x1 x2 x3 x4 x5 = some (r0, σ0)) : W p l e rm_X7_parts s m args below meth c H locs 0 0 (MQ below (cQ D ad cy A (some (.int r0)) σ0) args s 0 0 A) (F0 m 0 ls []) := by
  obtain ⟨hx, hb, hml, hown, hts, hr, hlocks⟩ := id hc
  unfold fc_X7_parts at hf
  refine lv_aload_n hx hb dX7_parts_0 rfl (lv_at hl 0 rfl) ?_
  refine lv_iload_n hx hb dX7_parts_1 rfl (lv_at hl 1 rfl) ?_
  obtain ⟨r1, σ2, hkr1, hf⟩ := bd_e hf
  refine rc_callV (own := RX7) (av := [.int x1]) (rest := []) (rv := (some (.int r1))) hx hb hml hown hts hl.1 hV hB 0 (c34 rfl hB) (ceq_0 _ _ _) rfl (cc_X7_isSet l D ad cy z n σ x1 hkr1) (kwc_X7_231  hts ⟨Nat.le_of_ble_eq_true rfl, Nat.le_of_ble_eq_true rfl⟩) rfl rfl (lv_room (Nat.le_of_ble_eq_true rfl)) dX7_parts_2 (Nat.le_refl _) (Nat.le_refl _) (fun H locs hB => ?_)
  refine W.eq (g2 := F0 m 5 ls [.int r1]) rfl ?_
  refine lv_if_eq (tgt := 35) hx hb dX7_parts_5 (by decide) (fun c3 => ?_) (fun c3 => ?_)
  · have hf := it_t hf c3
    refine lv_aload_n hx hb dX7_parts_35 rfl (lv_at hl 0 rfl) ?_
    refine lv_iconst (v := (-1)) hx hb dX7_parts_36 (by decide) ?_
    obtain ⟨r4, σ5, hkr4, hf⟩ := bd_e hf
    refine rc_callV (own := RX7) (av := [.int (-1)]) (rest := []) (rv := (some (.int r4))) hx hb hml hown hts hl.1 hV hB 0 (c34 rfl hB) (ceq_0 _ _ _) rfl (cc_X7_refuse l D ad cy z n σ2 (-1) hkr4) (kwc_X7_43  hts ⟨Nat.le_of_ble_eq_true rfl, Nat.le_of_ble_eq_true rfl⟩) rfl rfl (lv_room (Nat.le_of_ble_eq_true rfl)) dX7_parts_37 (Nat.le_refl _) (Nat.le_refl _) (fun H locs hB => ?_)
    refine W.eq (g2 := F0 m 40 ls [.int r4]) rfl ?_
    obtain ⟨rfl, rfl⟩ := so_e hf
    exact rc_iret hx hb hr hlocks hB dX7_parts_40
  · have hf := it_f hf c3
    refine lv_aload_n hx hb dX7_parts_8 rfl (lv_at hl 0 rfl) ?_
    refine lv_iload_n hx hb dX7_parts_9 rfl (lv_at hl 2 rfl) ?_
    obtain ⟨r6, σ7, hkr6, hf⟩ := bd_e hf
    refine rc_callV (own := RX7) (av := [.int x2]) (rest := []) (rv := (some (.int r6))) hx hb hml hown hts hl.1 hV hB 0 (c34 rfl hB) (ceq_0 _ _ _) rfl (cc_X7_isSet l D ad cy z n σ2 x2 hkr6) (kwc_X7_231  hts ⟨Nat.le_of_ble_eq_true rfl, Nat.le_of_ble_eq_true rfl⟩) rfl rfl (lv_room (Nat.le_of_ble_eq_true rfl)) dX7_parts_10 (Nat.le_refl _) (Nat.le_refl _) (fun H locs hB => ?_)
    refine W.eq (g2 := F0 m 13 ls [.int r6]) rfl ?_
    refine lv_if_eq (tgt := 35) hx hb dX7_parts_13 (by decide) (fun c8 => ?_) (fun c8 => ?_)
    · have hf := it_t hf c8
      refine lv_aload_n hx hb dX7_parts_35 rfl (lv_at hl 0 rfl) ?_
      refine lv_iconst (v := (-1)) hx hb dX7_parts_36 (by decide) ?_
      obtain ⟨r9, σ10, hkr9, hf⟩ := bd_e hf
      refine rc_callV (own := RX7) (av := [.int (-1)]) (rest := []) (rv := (some (.int r9))) hx hb hml hown hts hl.1 hV hB 0 (c34 rfl hB) (ceq_0 _ _ _) rfl (cc_X7_refuse l D ad cy z n σ7 (-1) hkr9) (kwc_X7_43  hts ⟨Nat.le_of_ble_eq_true rfl, Nat.le_of_ble_eq_true rfl⟩) rfl rfl (lv_room (Nat.le_of_ble_eq_true rfl)) dX7_parts_37 (Nat.le_refl _) (Nat.le_refl _) (fun H locs hB => ?_)
      refine W.eq (g2 := F0 m 40 ls [.int r9]) rfl ?_
      obtain ⟨rfl, rfl⟩ := so_e hf
      exact rc_iret hx hb hr hlocks hB dX7_parts_40
    · have hf := it_f hf c8
      refine lv_aload_n hx hb dX7_parts_16 rfl (lv_at hl 0 rfl) ?_
      refine rc_get (own := RX7) hx hb hts inC_7 hown hV hB 0 (c34 rfl hB) (ceq_0 _ _ _) rfl 2 (Nat.le_of_ble_eq_true rfl) qf_X7_23 rfl dX7_parts_17 ?_
      refine lv_iload_n hx hb dX7_parts_20 rfl (lv_at hl 3 rfl) ?_
      obtain ⟨r11, σ12, hkr11, hf⟩ := bd_e hf
      refine rc_callV (own := RX7) (av := [.int x3]) (rest := []) (rv := (some (va_rf (Option.map ad r11)))) hx hb hml hown hts hl.1 hV hB 5 (c34 rfl hB) (ceq_5 _ _ _) rfl (cc_X0_plateAt l D ad cy z n σ7 x3 hkr11) (kwc_X7_69  hts ⟨Nat.le_of_ble_eq_true rfl, Nat.le_of_ble_eq_true rfl⟩) rfl rfl (lv_room (Nat.le_of_ble_eq_true rfl)) dX7_parts_21 (Nat.le_refl _) (Nat.le_refl _) (fun H locs hB => ?_)
      refine W.eq (g2 := F0 m 24 ls [va_rf (Option.map ad r11)]) rfl ?_
      rcases r11 with _ | q13
      · have hf := oc_n hf
        refine lv_ifnullN (tgt := 35) hx hb dX7_parts_24 (by decide) ?_
        refine lv_aload_n hx hb dX7_parts_35 rfl (lv_at hl 0 rfl) ?_
        refine lv_iconst (v := (-1)) hx hb dX7_parts_36 (by decide) ?_
        obtain ⟨r14, σ15, hkr14, hf⟩ := bd_e hf
        refine rc_callV (own := RX7) (av := [.int (-1)]) (rest := []) (rv := (some (.int r14))) hx hb hml hown hts hl.1 hV hB 0 (c34 rfl hB) (ceq_0 _ _ _) rfl (cc_X7_refuse l D ad cy z n σ12 (-1) hkr14) (kwc_X7_43  hts ⟨Nat.le_of_ble_eq_true rfl, Nat.le_of_ble_eq_true rfl⟩) rfl rfl (lv_room (Nat.le_of_ble_eq_true rfl)) dX7_parts_37 (Nat.le_refl _) (Nat.le_refl _) (fun H locs hB => ?_)
        refine W.eq (g2 := F0 m 40 ls [.int r14]) rfl ?_
        obtain ⟨rfl, rfl⟩ := so_e hf
        exact rc_iret hx hb hr hlocks hB dX7_parts_40
      · have hf := oc_s hf
        refine lv_ifnull hx hb dX7_parts_24 ?_
        refine lv_iload hx hb dX7_parts_27 (lv_at hl 4 rfl) ?_
        obtain ⟨r16, σ17, hkr16, hf⟩ := bd_e hf
        refine rc_callS (own := RX7) (av := [.int x4]) (rest := []) (rv := (some (.int r16))) hx hb hml hown hts hl.1 hV hB (cc_X7_isFloor l D ad cy z n σ12 x4 hkr16) (kwc_X7_128  hts ⟨Nat.le_of_ble_eq_true rfl, Nat.le_of_ble_eq_true rfl⟩) rfl rfl (lv_room (Nat.le_of_ble_eq_true rfl)) dX7_parts_29 (Nat.le_refl _) (Nat.le_refl _) (fun H locs hB => ?_)
        refine W.eq (g2 := F0 m 32 ls [.int r16]) rfl ?_
        refine lv_if_ne (tgt := 41) hx hb dX7_parts_32 (by decide) (fun c18 => ?_) (fun c18 => ?_)
        · have hf := it_f hf c18
          refine lv_iload hx hb dX7_parts_41 (lv_at hl 5 rfl) ?_
          obtain ⟨r19, σ20, hkr19, hf⟩ := bd_e hf
          refine rc_callS (own := RX7) (av := [.int x5]) (rest := []) (rv := (some (.int r19))) hx hb hml hown hts hl.1 hV hB (cc_X7_isZeroOrOne l D ad cy z n σ17 x5 hkr19) (kwc_X7_132  hts ⟨Nat.le_of_ble_eq_true rfl, Nat.le_of_ble_eq_true rfl⟩) rfl rfl (lv_room (Nat.le_of_ble_eq_true rfl)) dX7_parts_43 (Nat.le_refl _) (Nat.le_refl _) (fun H locs hB => ?_)
          refine W.eq (g2 := F0 m 46 ls [.int r19]) rfl ?_
          refine lv_if_ne (tgt := 56) hx hb dX7_parts_46 (by decide) (fun c21 => ?_) (fun c21 => ?_)
          · have hf := it_f hf c21
            refine lv_aload_n hx hb dX7_parts_56 rfl (lv_at hl 0 rfl) ?_
            refine rc_get (own := RX7) hx hb hts inC_7 hown hV hB 0 (c34 rfl hB) (ceq_0 _ _ _) rfl 2 (Nat.le_of_ble_eq_true rfl) qf_X7_23 rfl dX7_parts_57 ?_
            refine rc_get (own := RX7) hx hb hts inC_0 hown hV hB 5 (c34 rfl hB) (ceq_5 _ _ _) rfl 6 (Nat.le_of_ble_eq_true rfl) qf_X7_119 rfl dX7_parts_60 ?_
            refine rc_get (own := RX7) hx hb hts inC_5 hown hV hB 12 (c34 rfl hB) (ceq_12 _ _ _) rfl 0 (Nat.le_of_ble_eq_true rfl) qf_X7_165 rfl dX7_parts_63 ?_
            refine lv_if_ne (tgt := 76) hx hb dX7_parts_66 (by decide) (fun c22 => ?_) (fun c22 => ?_)
            · have hf := it_f hf c22
              refine lv_iconst (v := 0) hx hb dX7_parts_76 (by decide) ?_
              refine lv_topi (fun y23 ey23 => ?_)
              have hf := sq_e hf y23 ey23
              refine lv_istore (lv' := [(6, .int y23), (0, .ref (ad 0)), (1, .int x1), (2, .int x2), (3, .int x3), (4, .int x4), (5, .int x5)]) hx hb dX7_parts_77 hl (by decide) rfl (fun ls hl => ?_)
              refine lv_iconst (v := (-1)) hx hb dX7_parts_79 (by decide) ?_
              refine lv_topi (fun y24 ey24 => ?_)
              have hf := sq_e hf y24 ey24
              refine lv_istore (lv' := [(7, .int y24), (6, .int y23), (0, .ref (ad 0)), (1, .int x1), (2, .int x2), (3, .int x3), (4, .int x4), (5, .int x5)]) hx hb dX7_parts_80 hl (by decide) rfl (fun ls hl => ?_)
              refine lv_iconst (v := 0) hx hb dX7_parts_82 (by decide) ?_
              refine lv_topi (fun y25 ey25 => ?_)
              have hf := sq_e hf y25 ey25
              refine lv_istore (lv' := [(8, .int y25), (7, .int y24), (6, .int y23), (0, .ref (ad 0)), (1, .int x1), (2, .int x2), (3, .int x3), (4, .int x4), (5, .int x5)]) hx hb dX7_parts_83 hl (by decide) rfl (fun ls hl => ?_)
              exact tlc_X7_parts_85 hc hV n n σ20 x1 x2 x3 x4 x5 y23 y24 y25 _ _ _ hB (lv_sub hl [3, 4, 5, 6, 7, 8, 2, 1, 0] rfl) hf
            · have hf := it_t hf c22
              refine lv_aload_n hx hb dX7_parts_69 rfl (lv_at hl 0 rfl) ?_
              refine lv_bipush (v := (-3)) hx hb dX7_parts_70 (by decide) ?_
              obtain ⟨r26, σ27, hkr26, hf⟩ := bd_e hf
              refine rc_callV (own := RX7) (av := [.int (-3)]) (rest := []) (rv := (some (.int r26))) hx hb hml hown hts hl.1 hV hB 0 (c34 rfl hB) (ceq_0 _ _ _) rfl (cc_X7_refuse l D ad cy z n σ20 (-3) hkr26) (kwc_X7_43  hts ⟨Nat.le_of_ble_eq_true rfl, Nat.le_of_ble_eq_true rfl⟩) rfl rfl (lv_room (Nat.le_of_ble_eq_true rfl)) dX7_parts_72 (Nat.le_refl _) (Nat.le_refl _) (fun H locs hB => ?_)
              refine W.eq (g2 := F0 m 75 ls [.int r26]) rfl ?_
              obtain ⟨rfl, rfl⟩ := so_e hf
              exact rc_iret hx hb hr hlocks hB dX7_parts_75
          · have hf := it_t hf c21
            refine lv_aload_n hx hb dX7_parts_49 rfl (lv_at hl 0 rfl) ?_
            refine lv_bipush (v := (-2)) hx hb dX7_parts_50 (by decide) ?_
            obtain ⟨r28, σ29, hkr28, hf⟩ := bd_e hf
            refine rc_callV (own := RX7) (av := [.int (-2)]) (rest := []) (rv := (some (.int r28))) hx hb hml hown hts hl.1 hV hB 0 (c34 rfl hB) (ceq_0 _ _ _) rfl (cc_X7_refuse l D ad cy z n σ20 (-2) hkr28) (kwc_X7_43  hts ⟨Nat.le_of_ble_eq_true rfl, Nat.le_of_ble_eq_true rfl⟩) rfl rfl (lv_room (Nat.le_of_ble_eq_true rfl)) dX7_parts_52 (Nat.le_refl _) (Nat.le_refl _) (fun H locs hB => ?_)
            refine W.eq (g2 := F0 m 55 ls [.int r28]) rfl ?_
            obtain ⟨rfl, rfl⟩ := so_e hf
            exact rc_iret hx hb hr hlocks hB dX7_parts_55
        · have hf := it_t hf c18
          refine lv_aload_n hx hb dX7_parts_35 rfl (lv_at hl 0 rfl) ?_
          refine lv_iconst (v := (-1)) hx hb dX7_parts_36 (by decide) ?_
          obtain ⟨r30, σ31, hkr30, hf⟩ := bd_e hf
          refine rc_callV (own := RX7) (av := [.int (-1)]) (rest := []) (rv := (some (.int r30))) hx hb hml hown hts hl.1 hV hB 0 (c34 rfl hB) (ceq_0 _ _ _) rfl (cc_X7_refuse l D ad cy z n σ17 (-1) hkr30) (kwc_X7_43  hts ⟨Nat.le_of_ble_eq_true rfl, Nat.le_of_ble_eq_true rfl⟩) rfl rfl (lv_room (Nat.le_of_ble_eq_true rfl)) dX7_parts_37 (Nat.le_refl _) (Nat.le_refl _) (fun H locs hB => ?_)
          refine W.eq (g2 := F0 m 40 ls [.int r30]) rfl ?_
          obtain ⟨rfl, rfl⟩ := so_e hf
          exact rc_iret hx hb hr hlocks hB dX7_parts_40
theorem cc_X7_parts (l : Launch) (D : va_G) (ad : Nat → Nat) (cy : CY) (z : CZ) (n : Nat) (σ : CS) (x1 : Int32) (x2 : Int32) (x3 : Int32) (x4 : Int32) (x5 : Int32) {r0 : Int32} {σ0 : CS} (hf : fc_X7_parts n σ x1 x2 x3 x4 x5 = some (r0, σ0)) : cM l yX7_parts wn_X7_parts rm_X7_parts D ad cy z [.ref (ad 0), .int x1, .int x2, .int x3, .int x4, .int x5] σ (some (.int r0)) σ0 :=
  rc_met (ret := (some .int)) (by decide) rfl (Nat.le_of_ble_eq_true rfl) (fun p e s m below meth c A ls hc hV hB hl => tbc_X7_parts_0 hc hV n σ x1 x2 x3 x4 x5 hB hl hf)
/-! X7_longest -/
abbrev rm_X7_longest : Room := { frames := 6, cells := 0, slots := 0, locals := 178 }
abbrev wn_X7_longest : List Cond := .code yX7_longest cX7_longest 9 (some .int) :: wsC
def bc_X7_longest_59 (n : Nat) (K59 : CS → Int32 → Int32 → Int32 → Int32 → Int32 → Int32 → Option ((Int32) × CS)) (σ : CS) (x1 : Int32) (x2 : Int32) (x3 : Int32) (x4 : Int32) (x5 : Int32) (x6 : Int32) : Option ((Int32) × CS) := if (6 ≤ x6) then (some (x4, σ)) else (bd (fc_X0_plateAt n σ x6) (fun r2 σ3 => oc r2 (sq (x6 + 1 : Int32) (fun y5 => K59 σ3 x1 x2 x3 x4 x5 y5)) (fun q4 => ck (pk σ3 q4 3) (if (x1 < (σ3.1 q4 0)) then (sq (x6 + 1 : Int32) (fun y8 => K59 σ3 x1 x2 x3 x4 x5 y8)) else (bd (fc_X7_ticksOf n σ3 q4 x2 x3) (fun r9 σ10 => if (r9 ≤ x5) then (sq (x6 + 1 : Int32) (fun y12 => K59 σ10 x1 x2 x3 x4 x5 y12)) else (sq (x6 + 1 : Int32) (fun y13 => K59 σ10 x1 x2 x3 x6 r9 y13))))))))
set_option maxRecDepth 100000 in
set_option maxHeartbeats 4000000 in
theorem tbc_X7_longest_59 {p : Program} {l : Launch} {e : Env} {s : State} {m : MethodId} {args : Array Value} {below : List Frame} {meth : Method} {c : Code} {D : va_G} {A : Nat → Prop} {ad : Nat → Nat} {cy : CY} {z : CZ} {r0 : Int32} {σ0 : CS} (hc : cxB RX7 wsC cX7_longest 9 (some .int) p s m args meth c) (hV : cV D cy z A s) (n : Nat) (K59 : CS → Int32 → Int32 → Int32 → Int32 → Int32 → Int32 → Option ((Int32) × CS)) (hK59 : ∀ (σ : CS) (x1 : Int32) (x2 : Int32) (x3 : Int32) (x4 : Int32) (x5 : Int32) (x6 : Int32) (H : Heap) (locs : List Loc) (ls : Array Slot), cB D ad cy A s.heap σ H locs → lv_has ls 9 [(0, .ref (ad 0)), (1, .int x1), (2, .int x2), (3, .int x3), (4, .int x4), (5, .int x5), (6, .int x6)] → K59 σ x1 x2 x3 x4 x5 x6 = some (r0, σ0) → W p l e rm_X7_longest s m args below meth c H locs 0 0 (MQ below (cQ D ad cy A (some (.int r0)) σ0) args s 0 0 A) (F0 m 59 ls [])) (σ : CS) (x1 : Int32) (x2 : Int32) (x3 : Int32) (x4 : Int32) (x5 : Int32) (x6 : Int32) {H : Heap} {locs : List Loc} {ls : Array Slot} (hB : cB D ad cy A s.heap σ H locs) (hl : lv_has ls 9 [(0, .ref (ad 0)), (1, .int x1), (2, .int x2), (3, .int x3), (4, .int x4), (5, .int x5), (6, .int x6)]) (hf : bc_X7_longest_59 n K59 σ x1 x2 x3 x4 x5 x6 = some (r0, σ0)) : W p l e rm_X7_longest s m args below meth c H locs 0 0 (MQ below (cQ D ad cy A (some (.int r0)) σ0) args s 0 0 A) (F0 m 59 ls []) := by
  obtain ⟨hx, hb, hml, hown, hts, hr, hlocks⟩ := id hc
  unfold bc_X7_longest_59 at hf
  refine lv_iload hx hb dX7_longest_59 (lv_at hl 6 rfl) ?_
  refine lv_bipush (v := 6) hx hb dX7_longest_61 (by decide) ?_
  refine lv_icmp_ge (tgt := 122) hx hb dX7_longest_63 (by decide) (fun c1 => ?_) (fun c1 => ?_)
  · have hf := it_t hf c1
    refine lv_iload hx hb dX7_longest_122 (lv_at hl 4 rfl) ?_
    obtain ⟨rfl, rfl⟩ := so_e hf
    exact rc_iret hx hb hr hlocks hB dX7_longest_124
  · have hf := it_f hf c1
    refine lv_aload_n hx hb dX7_longest_66 rfl (lv_at hl 0 rfl) ?_
    refine rc_get (own := RX7) hx hb hts inC_7 hown hV hB 0 (c34 rfl hB) (ceq_0 _ _ _) rfl 2 (Nat.le_of_ble_eq_true rfl) qf_X7_23 rfl dX7_longest_67 ?_
    refine lv_iload hx hb dX7_longest_70 (lv_at hl 6 rfl) ?_
    obtain ⟨r2, σ3, hkr2, hf⟩ := bd_e hf
    refine rc_callV (own := RX7) (av := [.int x6]) (rest := []) (rv := (some (va_rf (Option.map ad r2)))) hx hb hml hown hts hl.1 hV hB 5 (c34 rfl hB) (ceq_5 _ _ _) rfl (cc_X0_plateAt l D ad cy z n σ x6 hkr2) (kwc_X7_69  hts ⟨Nat.le_of_ble_eq_true rfl, Nat.le_of_ble_eq_true rfl⟩) rfl rfl (lv_room (Nat.le_of_ble_eq_true rfl)) dX7_longest_72 (Nat.le_refl _) (Nat.le_refl _) (fun H locs hB => ?_)
    refine W.eq (g2 := F0 m 75 ls [va_rf (Option.map ad r2)]) rfl ?_
    rcases r2 with _ | q4
    · have hf := oc_n hf
      refine lv_astoreN (lv' := [(7, .null), (0, .ref (ad 0)), (1, .int x1), (2, .int x2), (3, .int x3), (4, .int x4), (5, .int x5), (6, .int x6)]) hx hb dX7_longest_75 hl (by decide) rfl (fun ls hl => ?_)
      refine lv_aloadN hx hb dX7_longest_77 (lv_at hl 0 rfl) ?_
      refine lv_ifnullN (tgt := 116) hx hb dX7_longest_79 (by decide) ?_
      obtain ⟨y5, ey5⟩ : ∃ z : Int32, z = x6 + 1 := ⟨_, rfl⟩
      have hf := sq_e hf y5 ey5
      refine lv_iinc (v := y5) (lv' := [(6, .int y5), (7, .null), (0, .ref (ad 0)), (1, .int x1), (2, .int x2), (3, .int x3), (4, .int x4), (5, .int x5)]) hx hb dX7_longest_116 hl (k := 7) rfl (by rw [ey5]; rfl) (by decide) rfl (fun ls hl => ?_)
      refine lv_goto (tgt := 59) hx hb dX7_longest_119 (by decide) ?_
      exact hK59 σ3 x1 x2 x3 x4 x5 y5 _ _ _ hB (lv_sub hl [2, 3, 4, 5, 6, 7, 0] rfl) hf
    · have hf := oc_s hf
      refine lv_astore (lv' := [(7, .ref (ad q4)), (0, .ref (ad 0)), (1, .int x1), (2, .int x2), (3, .int x3), (4, .int x4), (5, .int x5), (6, .int x6)]) hx hb dX7_longest_75 hl (by decide) rfl (fun ls hl => ?_)
      refine lv_aload hx hb dX7_longest_77 (lv_at hl 0 rfl) ?_
      refine lv_ifnull hx hb dX7_longest_79 ?_
      refine lv_aload hx hb dX7_longest_82 (lv_at hl 0 rfl) ?_
      obtain ⟨k6, hf⟩ := ck_e hf
      refine rc_get (own := RX7) hx hb hts inC_3 hown hV hB q4 (pk_s k6).2.1 (ceq_P k6) rfl 0 (Nat.le_of_ble_eq_true rfl) qf_X7_73 rfl dX7_longest_84 ?_
      refine lv_iload_n hx hb dX7_longest_87 rfl (lv_at hl 2 rfl) ?_
      refine lv_icmp_gt (tgt := 116) hx hb dX7_longest_88 (by decide) (fun c7 => ?_) (fun c7 => ?_)
      · have hf := it_t hf c7
        obtain ⟨y8, ey8⟩ : ∃ z : Int32, z = x6 + 1 := ⟨_, rfl⟩
        have hf := sq_e hf y8 ey8
        refine lv_iinc (v := y8) (lv' := [(6, .int y8), (7, .ref (ad q4)), (0, .ref (ad 0)), (1, .int x1), (2, .int x2), (3, .int x3), (4, .int x4), (5, .int x5)]) hx hb dX7_longest_116 hl (k := 7) rfl (by rw [ey8]; rfl) (by decide) rfl (fun ls hl => ?_)
        refine lv_goto (tgt := 59) hx hb dX7_longest_119 (by decide) ?_
        exact hK59 σ3 x1 x2 x3 x4 x5 y8 _ _ _ hB (lv_sub hl [2, 3, 4, 5, 6, 7, 0] rfl) hf
      · have hf := it_f hf c7
        refine lv_aload_n hx hb dX7_longest_91 rfl (lv_at hl 1 rfl) ?_
        refine lv_aload hx hb dX7_longest_92 (lv_at hl 0 rfl) ?_
        refine lv_iload_n hx hb dX7_longest_94 rfl (lv_at hl 3 rfl) ?_
        refine lv_iload_n hx hb dX7_longest_95 rfl (lv_at hl 4 rfl) ?_
        obtain ⟨r9, σ10, hkr9, hf⟩ := bd_e hf
        refine rc_callV (own := RX7) (av := [.ref (ad q4), .int x2, .int x3]) (rest := []) (rv := (some (.int r9))) hx hb hml hown hts hl.1 hV hB 0 (c34 rfl hB) (ceq_0 _ _ _) rfl (cc_X7_ticksOf l D ad cy z n σ3 q4 x2 x3 hkr9) (kwc_X7_202  hts ⟨Nat.le_of_ble_eq_true rfl, Nat.le_of_ble_eq_true rfl⟩) rfl rfl (lv_room (Nat.le_of_ble_eq_true rfl)) dX7_longest_96 (Nat.le_refl _) (Nat.le_refl _) (fun H locs hB => ?_)
        refine W.eq (g2 := F0 m 99 ls [.int r9]) rfl ?_
        refine lv_istore (lv' := [(8, .int r9), (7, .ref (ad q4)), (0, .ref (ad 0)), (1, .int x1), (2, .int x2), (3, .int x3), (4, .int x4), (5, .int x5), (6, .int x6)]) hx hb dX7_longest_99 hl (by decide) rfl (fun ls hl => ?_)
        refine lv_iload hx hb dX7_longest_101 (lv_at hl 0 rfl) ?_
        refine lv_iload hx hb dX7_longest_103 (lv_at hl 7 rfl) ?_
        refine lv_icmp_le (tgt := 116) hx hb dX7_longest_105 (by decide) (fun c11 => ?_) (fun c11 => ?_)
        · have hf := it_t hf c11
          obtain ⟨y12, ey12⟩ : ∃ z : Int32, z = x6 + 1 := ⟨_, rfl⟩
          have hf := sq_e hf y12 ey12
          refine lv_iinc (v := y12) (lv' := [(6, .int y12), (8, .int r9), (7, .ref (ad q4)), (0, .ref (ad 0)), (1, .int x1), (2, .int x2), (3, .int x3), (4, .int x4), (5, .int x5)]) hx hb dX7_longest_116 hl (k := 8) rfl (by rw [ey12]; rfl) (by decide) rfl (fun ls hl => ?_)
          refine lv_goto (tgt := 59) hx hb dX7_longest_119 (by decide) ?_
          exact hK59 σ10 x1 x2 x3 x4 x5 y12 _ _ _ hB (lv_sub hl [3, 4, 5, 6, 7, 8, 0] rfl) hf
        · have hf := it_f hf c11
          refine lv_iload hx hb dX7_longest_108 (lv_at hl 0 rfl) ?_
          refine lv_istore (lv' := [(5, .int r9), (8, .int r9), (7, .ref (ad q4)), (0, .ref (ad 0)), (1, .int x1), (2, .int x2), (3, .int x3), (4, .int x4), (6, .int x6)]) hx hb dX7_longest_110 hl (by decide) rfl (fun ls hl => ?_)
          refine lv_iload hx hb dX7_longest_112 (lv_at hl 8 rfl) ?_
          refine lv_istore (lv' := [(4, .int x6), (5, .int r9), (8, .int r9), (7, .ref (ad q4)), (0, .ref (ad 0)), (1, .int x1), (2, .int x2), (3, .int x3), (6, .int x6)]) hx hb dX7_longest_114 hl (by decide) rfl (fun ls hl => ?_)
          obtain ⟨y13, ey13⟩ : ∃ z : Int32, z = x6 + 1 := ⟨_, rfl⟩
          have hf := sq_e hf y13 ey13
          refine lv_iinc (v := y13) (lv' := [(6, .int y13), (4, .int x6), (5, .int r9), (8, .int r9), (7, .ref (ad q4)), (0, .ref (ad 0)), (1, .int x1), (2, .int x2), (3, .int x3)]) hx hb dX7_longest_116 hl (k := 8) rfl (by rw [ey13]; rfl) (by decide) rfl (fun ls hl => ?_)
          refine lv_goto (tgt := 59) hx hb dX7_longest_119 (by decide) ?_
          exact hK59 σ10 x1 x2 x3 x6 r9 y13 _ _ _ hB (lv_sub hl [5, 6, 7, 8, 1, 2, 0] rfl) hf
def lc_X7_longest_59 (n : Nat) : Nat → CS → Int32 → Int32 → Int32 → Int32 → Int32 → Int32 → Option ((Int32) × CS)
  | 0 => fun _ _ _ _ _ _ _ => none
  | k + 1 => bc_X7_longest_59 n (lc_X7_longest_59 n k)
theorem tlc_X7_longest_59 {p : Program} {l : Launch} {e : Env} {s : State} {m : MethodId} {args : Array Value} {below : List Frame} {meth : Method} {c : Code} {D : va_G} {A : Nat → Prop} {ad : Nat → Nat} {cy : CY} {z : CZ} {r0 : Int32} {σ0 : CS} (hc : cxB RX7 wsC cX7_longest 9 (some .int) p s m args meth c) (hV : cV D cy z A s) (n : Nat) : ∀ (k : Nat) (σ : CS) (x1 : Int32) (x2 : Int32) (x3 : Int32) (x4 : Int32) (x5 : Int32) (x6 : Int32) (H : Heap) (locs : List Loc) (ls : Array Slot), cB D ad cy A s.heap σ H locs → lv_has ls 9 [(0, .ref (ad 0)), (1, .int x1), (2, .int x2), (3, .int x3), (4, .int x4), (5, .int x5), (6, .int x6)] → lc_X7_longest_59 n k σ x1 x2 x3 x4 x5 x6 = some (r0, σ0) → W p l e rm_X7_longest s m args below meth c H locs 0 0 (MQ below (cQ D ad cy A (some (.int r0)) σ0) args s 0 0 A) (F0 m 59 ls []) := by
  intro k
  induction k with
  | zero =>
    intro σ x1 x2 x3 x4 x5 x6 H locs ls hB hl hf
    have hf : (none : Option ((Int32) × CS)) = some (r0, σ0) := hf
    cases hf
  | succ k ih =>
    intro σ x1 x2 x3 x4 x5 x6 H locs ls hB hl hf
    exact tbc_X7_longest_59 hc hV n (lc_X7_longest_59 n k) ih σ x1 x2 x3 x4 x5 x6 hB hl hf
def fc_X7_longest (n : Nat) (σ : CS) (x1 : Int32) (x2 : Int32) (x3 : Int32) : Option ((Int32) × CS) := bd (fc_X7_isFloor n σ x3) (fun r1 σ2 => if (r1 = 0) then (bd (fc_X7_refuse n σ2 (-1)) (fun r19 σ20 => some (r19, σ20))) else (if (x1 < 0) then (bd (fc_X7_refuse n σ2 (-4)) (fun r5 σ6 => some (r5, σ6))) else (if (0 ≤ x2) then (if (999 < x1) then (bd (fc_X7_refuse n σ2 (-6)) (fun r9 σ10 => some (r9, σ10))) else (if (x2 ≤ 9000) then (sq ((-9) : Int32) (fun y12 => sq ((-1) : Int32) (fun y13 => sq (0 : Int32) (fun y14 => lc_X7_longest_59 n n σ2 x1 x2 x3 y12 y13 y14)))) else (bd (fc_X7_refuse n σ2 (-6)) (fun r15 σ16 => some (r15, σ16))))) else (bd (fc_X7_refuse n σ2 (-4)) (fun r17 σ18 => some (r17, σ18))))))
set_option maxRecDepth 100000 in
set_option maxHeartbeats 4000000 in
theorem tbc_X7_longest_0 {p : Program} {l : Launch} {e : Env} {s : State} {m : MethodId} {args : Array Value} {below : List Frame} {meth : Method} {c : Code} {D : va_G} {A : Nat → Prop} {ad : Nat → Nat} {cy : CY} {z : CZ} {r0 : Int32} {σ0 : CS} (hc : cxB RX7 wsC cX7_longest 9 (some .int) p s m args meth c) (hV : cV D cy z A s) (n : Nat) (σ : CS) (x1 : Int32) (x2 : Int32) (x3 : Int32) {H : Heap} {locs : List Loc} {ls : Array Slot} (hB : cB D ad cy A s.heap σ H locs) (hl : lv_has ls 9 [(0, .ref (ad 0)), (1, .int x1), (2, .int x2), (3, .int x3)]) (hf : fc_X7_longest n σ x1 x2 x3 = some (r0, σ0)) : W p l e rm_X7_longest s m args below meth c H locs 0 0 (MQ below (cQ D ad cy A (some (.int r0)) σ0) args s 0 0 A) (F0 m 0 ls []) := by
  obtain ⟨hx, hb, hml, hown, hts, hr, hlocks⟩ := id hc
  unfold fc_X7_longest at hf
  refine lv_iload_n hx hb dX7_longest_0 rfl (lv_at hl 3 rfl) ?_
  obtain ⟨r1, σ2, hkr1, hf⟩ := bd_e hf
  refine rc_callS (own := RX7) (av := [.int x3]) (rest := []) (rv := (some (.int r1))) hx hb hml hown hts hl.1 hV hB (cc_X7_isFloor l D ad cy z n σ x3 hkr1) (kwc_X7_128  hts ⟨Nat.le_of_ble_eq_true rfl, Nat.le_of_ble_eq_true rfl⟩) rfl rfl (lv_room (Nat.le_of_ble_eq_true rfl)) dX7_longest_1 (Nat.le_refl _) (Nat.le_refl _) (fun H locs hB => ?_)
  refine W.eq (g2 := F0 m 4 ls [.int r1]) rfl ?_
  refine lv_if_ne (tgt := 13) hx hb dX7_longest_4 (by decide) (fun c3 => ?_) (fun c3 => ?_)
  · have hf := it_f hf c3
    refine lv_iload_n hx hb dX7_longest_13 rfl (lv_at hl 1 rfl) ?_
    refine lv_if_lt (tgt := 21) hx hb dX7_longest_14 (by decide) (fun c4 => ?_) (fun c4 => ?_)
    · have hf := it_t hf c4
      refine lv_aload_n hx hb dX7_longest_21 rfl (lv_at hl 0 rfl) ?_
      refine lv_bipush (v := (-4)) hx hb dX7_longest_22 (by decide) ?_
      obtain ⟨r5, σ6, hkr5, hf⟩ := bd_e hf
      refine rc_callV (own := RX7) (av := [.int (-4)]) (rest := []) (rv := (some (.int r5))) hx hb hml hown hts hl.1 hV hB 0 (c34 rfl hB) (ceq_0 _ _ _) rfl (cc_X7_refuse l D ad cy z n σ2 (-4) hkr5) (kwc_X7_43  hts ⟨Nat.le_of_ble_eq_true rfl, Nat.le_of_ble_eq_true rfl⟩) rfl rfl (lv_room (Nat.le_of_ble_eq_true rfl)) dX7_longest_24 (Nat.le_refl _) (Nat.le_refl _) (fun H locs hB => ?_)
      refine W.eq (g2 := F0 m 27 ls [.int r5]) rfl ?_
      obtain ⟨rfl, rfl⟩ := so_e hf
      exact rc_iret hx hb hr hlocks hB dX7_longest_27
    · have hf := it_f hf c4
      refine lv_iload_n hx hb dX7_longest_17 rfl (lv_at hl 2 rfl) ?_
      refine lv_if_ge (tgt := 28) hx hb dX7_longest_18 (by decide) (fun c7 => ?_) (fun c7 => ?_)
      · have hf := it_t hf c7
        refine lv_iload_n hx hb dX7_longest_28 rfl (lv_at hl 1 rfl) ?_
        refine lv_sipush (v := 999) hx hb dX7_longest_29 (by decide) ?_
        refine lv_icmp_gt (tgt := 42) hx hb dX7_longest_32 (by decide) (fun c8 => ?_) (fun c8 => ?_)
        · have hf := it_t hf c8
          refine lv_aload_n hx hb dX7_longest_42 rfl (lv_at hl 0 rfl) ?_
          refine lv_bipush (v := (-6)) hx hb dX7_longest_43 (by decide) ?_
          obtain ⟨r9, σ10, hkr9, hf⟩ := bd_e hf
          refine rc_callV (own := RX7) (av := [.int (-6)]) (rest := []) (rv := (some (.int r9))) hx hb hml hown hts hl.1 hV hB 0 (c34 rfl hB) (ceq_0 _ _ _) rfl (cc_X7_refuse l D ad cy z n σ2 (-6) hkr9) (kwc_X7_43  hts ⟨Nat.le_of_ble_eq_true rfl, Nat.le_of_ble_eq_true rfl⟩) rfl rfl (lv_room (Nat.le_of_ble_eq_true rfl)) dX7_longest_45 (Nat.le_refl _) (Nat.le_refl _) (fun H locs hB => ?_)
          refine W.eq (g2 := F0 m 48 ls [.int r9]) rfl ?_
          obtain ⟨rfl, rfl⟩ := so_e hf
          exact rc_iret hx hb hr hlocks hB dX7_longest_48
        · have hf := it_f hf c8
          refine lv_iload_n hx hb dX7_longest_35 rfl (lv_at hl 2 rfl) ?_
          refine lv_sipush (v := 9000) hx hb dX7_longest_36 (by decide) ?_
          refine lv_icmp_le (tgt := 49) hx hb dX7_longest_39 (by decide) (fun c11 => ?_) (fun c11 => ?_)
          · have hf := it_t hf c11
            refine lv_bipush (v := (-9)) hx hb dX7_longest_49 (by decide) ?_
            refine lv_topi (fun y12 ey12 => ?_)
            have hf := sq_e hf y12 ey12
            refine lv_istore (lv' := [(4, .int y12), (0, .ref (ad 0)), (1, .int x1), (2, .int x2), (3, .int x3)]) hx hb dX7_longest_51 hl (by decide) rfl (fun ls hl => ?_)
            refine lv_iconst (v := (-1)) hx hb dX7_longest_53 (by decide) ?_
            refine lv_topi (fun y13 ey13 => ?_)
            have hf := sq_e hf y13 ey13
            refine lv_istore (lv' := [(5, .int y13), (4, .int y12), (0, .ref (ad 0)), (1, .int x1), (2, .int x2), (3, .int x3)]) hx hb dX7_longest_54 hl (by decide) rfl (fun ls hl => ?_)
            refine lv_iconst (v := 0) hx hb dX7_longest_56 (by decide) ?_
            refine lv_topi (fun y14 ey14 => ?_)
            have hf := sq_e hf y14 ey14
            refine lv_istore (lv' := [(6, .int y14), (5, .int y13), (4, .int y12), (0, .ref (ad 0)), (1, .int x1), (2, .int x2), (3, .int x3)]) hx hb dX7_longest_57 hl (by decide) rfl (fun ls hl => ?_)
            exact tlc_X7_longest_59 hc hV n n σ2 x1 x2 x3 y12 y13 y14 _ _ _ hB (lv_sub hl [3, 4, 5, 6, 2, 1, 0] rfl) hf
          · have hf := it_f hf c11
            refine lv_aload_n hx hb dX7_longest_42 rfl (lv_at hl 0 rfl) ?_
            refine lv_bipush (v := (-6)) hx hb dX7_longest_43 (by decide) ?_
            obtain ⟨r15, σ16, hkr15, hf⟩ := bd_e hf
            refine rc_callV (own := RX7) (av := [.int (-6)]) (rest := []) (rv := (some (.int r15))) hx hb hml hown hts hl.1 hV hB 0 (c34 rfl hB) (ceq_0 _ _ _) rfl (cc_X7_refuse l D ad cy z n σ2 (-6) hkr15) (kwc_X7_43  hts ⟨Nat.le_of_ble_eq_true rfl, Nat.le_of_ble_eq_true rfl⟩) rfl rfl (lv_room (Nat.le_of_ble_eq_true rfl)) dX7_longest_45 (Nat.le_refl _) (Nat.le_refl _) (fun H locs hB => ?_)
            refine W.eq (g2 := F0 m 48 ls [.int r15]) rfl ?_
            obtain ⟨rfl, rfl⟩ := so_e hf
            exact rc_iret hx hb hr hlocks hB dX7_longest_48
      · have hf := it_f hf c7
        refine lv_aload_n hx hb dX7_longest_21 rfl (lv_at hl 0 rfl) ?_
        refine lv_bipush (v := (-4)) hx hb dX7_longest_22 (by decide) ?_
        obtain ⟨r17, σ18, hkr17, hf⟩ := bd_e hf
        refine rc_callV (own := RX7) (av := [.int (-4)]) (rest := []) (rv := (some (.int r17))) hx hb hml hown hts hl.1 hV hB 0 (c34 rfl hB) (ceq_0 _ _ _) rfl (cc_X7_refuse l D ad cy z n σ2 (-4) hkr17) (kwc_X7_43  hts ⟨Nat.le_of_ble_eq_true rfl, Nat.le_of_ble_eq_true rfl⟩) rfl rfl (lv_room (Nat.le_of_ble_eq_true rfl)) dX7_longest_24 (Nat.le_refl _) (Nat.le_refl _) (fun H locs hB => ?_)
        refine W.eq (g2 := F0 m 27 ls [.int r17]) rfl ?_
        obtain ⟨rfl, rfl⟩ := so_e hf
        exact rc_iret hx hb hr hlocks hB dX7_longest_27
  · have hf := it_t hf c3
    refine lv_aload_n hx hb dX7_longest_7 rfl (lv_at hl 0 rfl) ?_
    refine lv_iconst (v := (-1)) hx hb dX7_longest_8 (by decide) ?_
    obtain ⟨r19, σ20, hkr19, hf⟩ := bd_e hf
    refine rc_callV (own := RX7) (av := [.int (-1)]) (rest := []) (rv := (some (.int r19))) hx hb hml hown hts hl.1 hV hB 0 (c34 rfl hB) (ceq_0 _ _ _) rfl (cc_X7_refuse l D ad cy z n σ2 (-1) hkr19) (kwc_X7_43  hts ⟨Nat.le_of_ble_eq_true rfl, Nat.le_of_ble_eq_true rfl⟩) rfl rfl (lv_room (Nat.le_of_ble_eq_true rfl)) dX7_longest_9 (Nat.le_refl _) (Nat.le_refl _) (fun H locs hB => ?_)
    refine W.eq (g2 := F0 m 12 ls [.int r19]) rfl ?_
    obtain ⟨rfl, rfl⟩ := so_e hf
    exact rc_iret hx hb hr hlocks hB dX7_longest_12
theorem cc_X7_longest (l : Launch) (D : va_G) (ad : Nat → Nat) (cy : CY) (z : CZ) (n : Nat) (σ : CS) (x1 : Int32) (x2 : Int32) (x3 : Int32) {r0 : Int32} {σ0 : CS} (hf : fc_X7_longest n σ x1 x2 x3 = some (r0, σ0)) : cM l yX7_longest wn_X7_longest rm_X7_longest D ad cy z [.ref (ad 0), .int x1, .int x2, .int x3] σ (some (.int r0)) σ0 :=
  rc_met (ret := (some .int)) (by decide) rfl (Nat.le_of_ble_eq_true rfl) (fun p e s m below meth c A ls hc hV hB hl => tbc_X7_longest_0 hc hV n σ x1 x2 x3 hB hl hf)
/-! X7_bestFloor -/
abbrev rm_X7_bestFloor : Room := { frames := 6, cells := 0, slots := 0, locals := 178 }
abbrev wn_X7_bestFloor : List Cond := .code yX7_bestFloor cX7_bestFloor 7 (some .int) :: wsC
def bc_X7_bestFloor_8 (n : Nat) (K8 : CS → Nat → Int32 → Int32 → Int32 → Int32 → Option ((Int32) × CS)) (σ : CS) (x1 : Nat) (x2 : Int32) (x3 : Int32) (x4 : Int32) (x5 : Int32) : Option ((Int32) × CS) := if (4 ≤ x5) then (some (x3, σ)) else (bd (fc_X7_ticksOf n σ x1 x2 x5) (fun r2 σ3 => if (r2 ≤ x4) then (sq (x5 + 1 : Int32) (fun y5 => K8 σ3 x1 x2 x3 x4 y5)) else (sq (x5 + 1 : Int32) (fun y6 => K8 σ3 x1 x2 x5 r2 y6))))
set_option maxRecDepth 100000 in
set_option maxHeartbeats 4000000 in
theorem tbc_X7_bestFloor_8 {p : Program} {l : Launch} {e : Env} {s : State} {m : MethodId} {args : Array Value} {below : List Frame} {meth : Method} {c : Code} {D : va_G} {A : Nat → Prop} {ad : Nat → Nat} {cy : CY} {z : CZ} {r0 : Int32} {σ0 : CS} (hc : cxB RX7 wsC cX7_bestFloor 7 (some .int) p s m args meth c) (hV : cV D cy z A s) (n : Nat) (K8 : CS → Nat → Int32 → Int32 → Int32 → Int32 → Option ((Int32) × CS)) (hK8 : ∀ (σ : CS) (x1 : Nat) (x2 : Int32) (x3 : Int32) (x4 : Int32) (x5 : Int32) (H : Heap) (locs : List Loc) (ls : Array Slot), cB D ad cy A s.heap σ H locs → lv_has ls 7 [(0, .ref (ad 0)), (1, .ref (ad x1)), (2, .int x2), (3, .int x3), (4, .int x4), (5, .int x5)] → K8 σ x1 x2 x3 x4 x5 = some (r0, σ0) → W p l e rm_X7_bestFloor s m args below meth c H locs 0 0 (MQ below (cQ D ad cy A (some (.int r0)) σ0) args s 0 0 A) (F0 m 8 ls [])) (σ : CS) (x1 : Nat) (x2 : Int32) (x3 : Int32) (x4 : Int32) (x5 : Int32) {H : Heap} {locs : List Loc} {ls : Array Slot} (hB : cB D ad cy A s.heap σ H locs) (hl : lv_has ls 7 [(0, .ref (ad 0)), (1, .ref (ad x1)), (2, .int x2), (3, .int x3), (4, .int x4), (5, .int x5)]) (hf : bc_X7_bestFloor_8 n K8 σ x1 x2 x3 x4 x5 = some (r0, σ0)) : W p l e rm_X7_bestFloor s m args below meth c H locs 0 0 (MQ below (cQ D ad cy A (some (.int r0)) σ0) args s 0 0 A) (F0 m 8 ls []) := by
  obtain ⟨hx, hb, hml, hown, hts, hr, hlocks⟩ := id hc
  unfold bc_X7_bestFloor_8 at hf
  refine lv_iload hx hb dX7_bestFloor_8 (lv_at hl 5 rfl) ?_
  refine lv_iconst (v := 4) hx hb dX7_bestFloor_10 (by decide) ?_
  refine lv_icmp_ge (tgt := 44) hx hb dX7_bestFloor_11 (by decide) (fun c1 => ?_) (fun c1 => ?_)
  · have hf := it_t hf c1
    refine lv_iload_n hx hb dX7_bestFloor_44 rfl (lv_at hl 3 rfl) ?_
    obtain ⟨rfl, rfl⟩ := so_e hf
    exact rc_iret hx hb hr hlocks hB dX7_bestFloor_45
  · have hf := it_f hf c1
    refine lv_aload_n hx hb dX7_bestFloor_14 rfl (lv_at hl 0 rfl) ?_
    refine lv_aload_n hx hb dX7_bestFloor_15 rfl (lv_at hl 1 rfl) ?_
    refine lv_iload_n hx hb dX7_bestFloor_16 rfl (lv_at hl 2 rfl) ?_
    refine lv_iload hx hb dX7_bestFloor_17 (lv_at hl 5 rfl) ?_
    obtain ⟨r2, σ3, hkr2, hf⟩ := bd_e hf
    refine rc_callV (own := RX7) (av := [.ref (ad x1), .int x2, .int x5]) (rest := []) (rv := (some (.int r2))) hx hb hml hown hts hl.1 hV hB 0 (c34 rfl hB) (ceq_0 _ _ _) rfl (cc_X7_ticksOf l D ad cy z n σ x1 x2 x5 hkr2) (kwc_X7_202  hts ⟨Nat.le_of_ble_eq_true rfl, Nat.le_of_ble_eq_true rfl⟩) rfl rfl (lv_room (Nat.le_of_ble_eq_true rfl)) dX7_bestFloor_19 (Nat.le_refl _) (Nat.le_refl _) (fun H locs hB => ?_)
    refine W.eq (g2 := F0 m 22 ls [.int r2]) rfl ?_
    refine lv_istore (lv' := [(6, .int r2), (0, .ref (ad 0)), (1, .ref (ad x1)), (2, .int x2), (3, .int x3), (4, .int x4), (5, .int x5)]) hx hb dX7_bestFloor_22 hl (by decide) rfl (fun ls hl => ?_)
    refine lv_iload hx hb dX7_bestFloor_24 (lv_at hl 0 rfl) ?_
    refine lv_iload hx hb dX7_bestFloor_26 (lv_at hl 5 rfl) ?_
    refine lv_icmp_le (tgt := 38) hx hb dX7_bestFloor_28 (by decide) (fun c4 => ?_) (fun c4 => ?_)
    · have hf := it_t hf c4
      obtain ⟨y5, ey5⟩ : ∃ z : Int32, z = x5 + 1 := ⟨_, rfl⟩
      have hf := sq_e hf y5 ey5
      refine lv_iinc (v := y5) (lv' := [(5, .int y5), (6, .int r2), (0, .ref (ad 0)), (1, .ref (ad x1)), (2, .int x2), (3, .int x3), (4, .int x4)]) hx hb dX7_bestFloor_38 hl (k := 6) rfl (by rw [ey5]; rfl) (by decide) rfl (fun ls hl => ?_)
      refine lv_goto (tgt := 8) hx hb dX7_bestFloor_41 (by decide) ?_
      exact hK8 σ3 x1 x2 x3 x4 y5 _ _ _ hB (lv_sub hl [2, 3, 4, 5, 6, 0] rfl) hf
    · have hf := it_f hf c4
      refine lv_iload hx hb dX7_bestFloor_31 (lv_at hl 0 rfl) ?_
      refine lv_istore (lv' := [(4, .int r2), (6, .int r2), (0, .ref (ad 0)), (1, .ref (ad x1)), (2, .int x2), (3, .int x3), (5, .int x5)]) hx hb dX7_bestFloor_33 hl (by decide) rfl (fun ls hl => ?_)
      refine lv_iload hx hb dX7_bestFloor_35 (lv_at hl 6 rfl) ?_
      refine lv_istore_n (lv' := [(3, .int x5), (4, .int r2), (6, .int r2), (0, .ref (ad 0)), (1, .ref (ad x1)), (2, .int x2), (5, .int x5)]) hx hb dX7_bestFloor_37 rfl hl (by decide) rfl (fun ls hl => ?_)
      obtain ⟨y6, ey6⟩ : ∃ z : Int32, z = x5 + 1 := ⟨_, rfl⟩
      have hf := sq_e hf y6 ey6
      refine lv_iinc (v := y6) (lv' := [(5, .int y6), (3, .int x5), (4, .int r2), (6, .int r2), (0, .ref (ad 0)), (1, .ref (ad x1)), (2, .int x2)]) hx hb dX7_bestFloor_38 hl (k := 6) rfl (by rw [ey6]; rfl) (by decide) rfl (fun ls hl => ?_)
      refine lv_goto (tgt := 8) hx hb dX7_bestFloor_41 (by decide) ?_
      exact hK8 σ3 x1 x2 x5 r2 y6 _ _ _ hB (lv_sub hl [4, 5, 6, 1, 2, 0] rfl) hf
def lc_X7_bestFloor_8 (n : Nat) : Nat → CS → Nat → Int32 → Int32 → Int32 → Int32 → Option ((Int32) × CS)
  | 0 => fun _ _ _ _ _ _ => none
  | k + 1 => bc_X7_bestFloor_8 n (lc_X7_bestFloor_8 n k)
theorem tlc_X7_bestFloor_8 {p : Program} {l : Launch} {e : Env} {s : State} {m : MethodId} {args : Array Value} {below : List Frame} {meth : Method} {c : Code} {D : va_G} {A : Nat → Prop} {ad : Nat → Nat} {cy : CY} {z : CZ} {r0 : Int32} {σ0 : CS} (hc : cxB RX7 wsC cX7_bestFloor 7 (some .int) p s m args meth c) (hV : cV D cy z A s) (n : Nat) : ∀ (k : Nat) (σ : CS) (x1 : Nat) (x2 : Int32) (x3 : Int32) (x4 : Int32) (x5 : Int32) (H : Heap) (locs : List Loc) (ls : Array Slot), cB D ad cy A s.heap σ H locs → lv_has ls 7 [(0, .ref (ad 0)), (1, .ref (ad x1)), (2, .int x2), (3, .int x3), (4, .int x4), (5, .int x5)] → lc_X7_bestFloor_8 n k σ x1 x2 x3 x4 x5 = some (r0, σ0) → W p l e rm_X7_bestFloor s m args below meth c H locs 0 0 (MQ below (cQ D ad cy A (some (.int r0)) σ0) args s 0 0 A) (F0 m 8 ls []) := by
  intro k
  induction k with
  | zero =>
    intro σ x1 x2 x3 x4 x5 H locs ls hB hl hf
    have hf : (none : Option ((Int32) × CS)) = some (r0, σ0) := hf
    cases hf
  | succ k ih =>
    intro σ x1 x2 x3 x4 x5 H locs ls hB hl hf
    exact tbc_X7_bestFloor_8 hc hV n (lc_X7_bestFloor_8 n k) ih σ x1 x2 x3 x4 x5 hB hl hf
def fc_X7_bestFloor (n : Nat) (σ : CS) (x1 : Nat) (x2 : Int32) : Option ((Int32) × CS) := sq (0 : Int32) (fun y1 => sq ((-1) : Int32) (fun y2 => sq (0 : Int32) (fun y3 => lc_X7_bestFloor_8 n n σ x1 x2 y1 y2 y3)))
set_option maxRecDepth 100000 in
set_option maxHeartbeats 4000000 in
theorem tbc_X7_bestFloor_0 {p : Program} {l : Launch} {e : Env} {s : State} {m : MethodId} {args : Array Value} {below : List Frame} {meth : Method} {c : Code} {D : va_G} {A : Nat → Prop} {ad : Nat → Nat} {cy : CY} {z : CZ} {r0 : Int32} {σ0 : CS} (hc : cxB RX7 wsC cX7_bestFloor 7 (some .int) p s m args meth c) (hV : cV D cy z A s) (n : Nat) (σ : CS) (x1 : Nat) (x2 : Int32) {H : Heap} {locs : List Loc} {ls : Array Slot} (hB : cB D ad cy A s.heap σ H locs) (hl : lv_has ls 7 [(0, .ref (ad 0)), (1, .ref (ad x1)), (2, .int x2)]) (hf : fc_X7_bestFloor n σ x1 x2 = some (r0, σ0)) : W p l e rm_X7_bestFloor s m args below meth c H locs 0 0 (MQ below (cQ D ad cy A (some (.int r0)) σ0) args s 0 0 A) (F0 m 0 ls []) := by
  obtain ⟨hx, hb, hml, hown, hts, hr, hlocks⟩ := id hc
  unfold fc_X7_bestFloor at hf
  refine lv_iconst (v := 0) hx hb dX7_bestFloor_0 (by decide) ?_
  refine lv_topi (fun y1 ey1 => ?_)
  have hf := sq_e hf y1 ey1
  refine lv_istore_n (lv' := [(3, .int y1), (0, .ref (ad 0)), (1, .ref (ad x1)), (2, .int x2)]) hx hb dX7_bestFloor_1 rfl hl (by decide) rfl (fun ls hl => ?_)
  refine lv_iconst (v := (-1)) hx hb dX7_bestFloor_2 (by decide) ?_
  refine lv_topi (fun y2 ey2 => ?_)
  have hf := sq_e hf y2 ey2
  refine lv_istore (lv' := [(4, .int y2), (3, .int y1), (0, .ref (ad 0)), (1, .ref (ad x1)), (2, .int x2)]) hx hb dX7_bestFloor_3 hl (by decide) rfl (fun ls hl => ?_)
  refine lv_iconst (v := 0) hx hb dX7_bestFloor_5 (by decide) ?_
  refine lv_topi (fun y3 ey3 => ?_)
  have hf := sq_e hf y3 ey3
  refine lv_istore (lv' := [(5, .int y3), (4, .int y2), (3, .int y1), (0, .ref (ad 0)), (1, .ref (ad x1)), (2, .int x2)]) hx hb dX7_bestFloor_6 hl (by decide) rfl (fun ls hl => ?_)
  exact tlc_X7_bestFloor_8 hc hV n n σ x1 x2 y1 y2 y3 _ _ _ hB (lv_sub hl [3, 4, 5, 2, 1, 0] rfl) hf
theorem cc_X7_bestFloor (l : Launch) (D : va_G) (ad : Nat → Nat) (cy : CY) (z : CZ) (n : Nat) (σ : CS) (x1 : Nat) (x2 : Int32) {r0 : Int32} {σ0 : CS} (hf : fc_X7_bestFloor n σ x1 x2 = some (r0, σ0)) : cM l yX7_bestFloor wn_X7_bestFloor rm_X7_bestFloor D ad cy z [.ref (ad 0), .ref (ad x1), .int x2] σ (some (.int r0)) σ0 :=
  rc_met (ret := (some .int)) (by decide) rfl (Nat.le_of_ble_eq_true rfl) (fun p e s m below meth c A ls hc hV hB hl => tbc_X7_bestFloor_0 hc hV n σ x1 x2 hB hl hf)
/-! X7_bestEdge -/
theorem kwc_X7_310 {R : Room} {s : State} {args : Array Value} (hts : ∀ w ∈ wsC, w.before args s = true) (hR : rm_X2_takeEdge.frames + 1 ≤ R.frames ∧ 8 + (2 + 11) + rm_X2_takeEdge.locals ≤ R.locals) : CallW R s args RX7 RX2 310 yX2_takeEdge cX2_takeEdge 2 none wn_X2_takeEdge rm_X2_takeEdge 0 0 1 := cwV 1 hts (gC_v qc_507 qc_508 qc_509 qc_108 qc_510) rfl rfl rfl (by decide +kernel) hR
abbrev rm_X7_bestEdge : Room := { frames := 5, cells := 0, slots := 0, locals := 155 }
abbrev wn_X7_bestEdge : List Cond := .code yX7_bestEdge cX7_bestEdge 6 (some .int) :: wsC
def bc_X7_bestEdge_8 (n : Nat) (K8 : CS → Nat → Int32 → Int32 → Int32 → Int32 → Option ((Int32) × CS)) (σ : CS) (x1 : Nat) (x2 : Int32) (x3 : Int32) (x4 : Int32) (x5 : Int32) : Option ((Int32) × CS) := if (9 < x5) then (some (x3, σ)) else (bd (fc_X2_begin n σ (some x1) x2 0) (fun _ σ3 => bd (fc_X2_takeEdge n σ3 x5) (fun _ σ5 => bd (fc_X2_runTo n σ5 9999) (fun _ σ7 => if ((σ7.1 31 5) ≤ x4) then (sq (x5 + 1 : Int32) (fun y9 => K8 σ7 x1 x2 x3 x4 y9)) else (sq ((σ7.1 31 5) : Int32) (fun y10 => sq (x5 + 1 : Int32) (fun y11 => K8 σ7 x1 x2 x5 y10 y11)))))))
set_option maxRecDepth 100000 in
set_option maxHeartbeats 4000000 in
theorem tbc_X7_bestEdge_8 {p : Program} {l : Launch} {e : Env} {s : State} {m : MethodId} {args : Array Value} {below : List Frame} {meth : Method} {c : Code} {D : va_G} {A : Nat → Prop} {ad : Nat → Nat} {cy : CY} {z : CZ} {r0 : Int32} {σ0 : CS} (hc : cxB RX7 wsC cX7_bestEdge 6 (some .int) p s m args meth c) (hV : cV D cy z A s) (n : Nat) (K8 : CS → Nat → Int32 → Int32 → Int32 → Int32 → Option ((Int32) × CS)) (hK8 : ∀ (σ : CS) (x1 : Nat) (x2 : Int32) (x3 : Int32) (x4 : Int32) (x5 : Int32) (H : Heap) (locs : List Loc) (ls : Array Slot), cB D ad cy A s.heap σ H locs → lv_has ls 6 [(0, .ref (ad 0)), (1, .ref (ad x1)), (2, .int x2), (3, .int x3), (4, .int x4), (5, .int x5)] → K8 σ x1 x2 x3 x4 x5 = some (r0, σ0) → W p l e rm_X7_bestEdge s m args below meth c H locs 0 0 (MQ below (cQ D ad cy A (some (.int r0)) σ0) args s 0 0 A) (F0 m 8 ls [])) (σ : CS) (x1 : Nat) (x2 : Int32) (x3 : Int32) (x4 : Int32) (x5 : Int32) {H : Heap} {locs : List Loc} {ls : Array Slot} (hB : cB D ad cy A s.heap σ H locs) (hl : lv_has ls 6 [(0, .ref (ad 0)), (1, .ref (ad x1)), (2, .int x2), (3, .int x3), (4, .int x4), (5, .int x5)]) (hf : bc_X7_bestEdge_8 n K8 σ x1 x2 x3 x4 x5 = some (r0, σ0)) : W p l e rm_X7_bestEdge s m args below meth c H locs 0 0 (MQ below (cQ D ad cy A (some (.int r0)) σ0) args s 0 0 A) (F0 m 8 ls []) := by
  obtain ⟨hx, hb, hml, hown, hts, hr, hlocks⟩ := id hc
  unfold bc_X7_bestEdge_8 at hf
  refine lv_iload hx hb dX7_bestEdge_8 (lv_at hl 5 rfl) ?_
  refine lv_bipush (v := 9) hx hb dX7_bestEdge_10 (by decide) ?_
  refine lv_icmp_gt (tgt := 74) hx hb dX7_bestEdge_12 (by decide) (fun c1 => ?_) (fun c1 => ?_)
  · have hf := it_t hf c1
    refine lv_iload_n hx hb dX7_bestEdge_74 rfl (lv_at hl 3 rfl) ?_
    obtain ⟨rfl, rfl⟩ := so_e hf
    exact rc_iret hx hb hr hlocks hB dX7_bestEdge_75
  · have hf := it_f hf c1
    refine lv_aload_n hx hb dX7_bestEdge_15 rfl (lv_at hl 0 rfl) ?_
    refine rc_get (own := RX7) hx hb hts inC_7 hown hV hB 0 (c34 rfl hB) (ceq_0 _ _ _) rfl 4 (Nat.le_of_ble_eq_true rfl) qf_X7_35 rfl dX7_bestEdge_16 ?_
    refine lv_aload_n hx hb dX7_bestEdge_19 rfl (lv_at hl 1 rfl) ?_
    refine lv_iload_n hx hb dX7_bestEdge_20 rfl (lv_at hl 2 rfl) ?_
    refine lv_iconst (v := 0) hx hb dX7_bestEdge_21 (by decide) ?_
    obtain ⟨r2, σ3, hkr2, hf⟩ := bd_e hf
    refine rc_callV (own := RX7) (av := [va_rf (Option.map ad (some x1)), .int x2, .int 0]) (rest := []) (rv := none) hx hb hml hown hts hl.1 hV hB 31 (c34 rfl hB) (ceq_31 _ _ _) rfl (cc_X2_begin l D ad cy z n σ (some x1) x2 0 hkr2) (kwc_X7_151  hts ⟨Nat.le_of_ble_eq_true rfl, Nat.le_of_ble_eq_true rfl⟩) rfl rfl (lv_room (Nat.le_of_ble_eq_true rfl)) dX7_bestEdge_22 (Nat.le_refl _) (Nat.le_refl _) (fun H locs hB => ?_)
    refine W.eq (g2 := F0 m 25 ls []) rfl ?_
    refine lv_aload_n hx hb dX7_bestEdge_25 rfl (lv_at hl 0 rfl) ?_
    refine rc_get (own := RX7) hx hb hts inC_7 hown hV hB 0 (c34 rfl hB) (ceq_0 _ _ _) rfl 4 (Nat.le_of_ble_eq_true rfl) qf_X7_35 rfl dX7_bestEdge_26 ?_
    refine lv_iload hx hb dX7_bestEdge_29 (lv_at hl 5 rfl) ?_
    obtain ⟨r4, σ5, hkr4, hf⟩ := bd_e hf
    refine rc_callV (own := RX7) (av := [.int x5]) (rest := []) (rv := none) hx hb hml hown hts hl.1 hV hB 31 (c34 rfl hB) (ceq_31 _ _ _) rfl (cc_X2_takeEdge l D ad cy z n σ3 x5 hkr4) (kwc_X7_310  hts ⟨Nat.le_of_ble_eq_true rfl, Nat.le_of_ble_eq_true rfl⟩) rfl rfl (lv_room (Nat.le_of_ble_eq_true rfl)) dX7_bestEdge_31 (Nat.le_refl _) (Nat.le_refl _) (fun H locs hB => ?_)
    refine W.eq (g2 := F0 m 34 ls []) rfl ?_
    refine lv_aload_n hx hb dX7_bestEdge_34 rfl (lv_at hl 0 rfl) ?_
    refine rc_get (own := RX7) hx hb hts inC_7 hown hV hB 0 (c34 rfl hB) (ceq_0 _ _ _) rfl 4 (Nat.le_of_ble_eq_true rfl) qf_X7_35 rfl dX7_bestEdge_35 ?_
    refine lv_sipush (v := 9999) hx hb dX7_bestEdge_38 (by decide) ?_
    obtain ⟨r6, σ7, hkr6, hf⟩ := bd_e hf
    refine rc_callV (own := RX7) (av := [.int 9999]) (rest := []) (rv := none) hx hb hml hown hts hl.1 hV hB 31 (c34 rfl hB) (ceq_31 _ _ _) rfl (cc_X2_runTo l D ad cy z n σ5 9999 hkr6) (kwc_X7_211  hts ⟨Nat.le_of_ble_eq_true rfl, Nat.le_of_ble_eq_true rfl⟩) rfl rfl (lv_room (Nat.le_of_ble_eq_true rfl)) dX7_bestEdge_41 (Nat.le_refl _) (Nat.le_refl _) (fun H locs hB => ?_)
    refine W.eq (g2 := F0 m 44 ls []) rfl ?_
    refine lv_aload_n hx hb dX7_bestEdge_44 rfl (lv_at hl 0 rfl) ?_
    refine rc_get (own := RX7) hx hb hts inC_7 hown hV hB 0 (c34 rfl hB) (ceq_0 _ _ _) rfl 4 (Nat.le_of_ble_eq_true rfl) qf_X7_35 rfl dX7_bestEdge_45 ?_
    refine rc_get (own := RX7) hx hb hts inC_2 hown hV hB 31 (c34 rfl hB) (ceq_31 _ _ _) rfl 5 (Nat.le_of_ble_eq_true rfl) qf_X7_155 rfl dX7_bestEdge_48 ?_
    refine lv_iload hx hb dX7_bestEdge_51 (lv_at hl 4 rfl) ?_
    refine lv_icmp_le (tgt := 68) hx hb dX7_bestEdge_53 (by decide) (fun c8 => ?_) (fun c8 => ?_)
    · have hf := it_t hf c8
      obtain ⟨y9, ey9⟩ : ∃ z : Int32, z = x5 + 1 := ⟨_, rfl⟩
      have hf := sq_e hf y9 ey9
      refine lv_iinc (v := y9) (lv' := [(5, .int y9), (0, .ref (ad 0)), (1, .ref (ad x1)), (2, .int x2), (3, .int x3), (4, .int x4)]) hx hb dX7_bestEdge_68 hl (k := 5) rfl (by rw [ey9]; rfl) (by decide) rfl (fun ls hl => ?_)
      refine lv_goto (tgt := 8) hx hb dX7_bestEdge_71 (by decide) ?_
      exact hK8 σ7 x1 x2 x3 x4 y9 _ _ _ hB (lv_sub hl [1, 2, 3, 4, 5, 0] rfl) hf
    · have hf := it_f hf c8
      refine lv_aload_n hx hb dX7_bestEdge_56 rfl (lv_at hl 0 rfl) ?_
      refine rc_get (own := RX7) hx hb hts inC_7 hown hV hB 0 (c34 rfl hB) (ceq_0 _ _ _) rfl 4 (Nat.le_of_ble_eq_true rfl) qf_X7_35 rfl dX7_bestEdge_57 ?_
      refine rc_get (own := RX7) hx hb hts inC_2 hown hV hB 31 (c34 rfl hB) (ceq_31 _ _ _) rfl 5 (Nat.le_of_ble_eq_true rfl) qf_X7_155 rfl dX7_bestEdge_60 ?_
      refine lv_topi (fun y10 ey10 => ?_)
      have hf := sq_e hf y10 ey10
      refine lv_istore (lv' := [(4, .int y10), (0, .ref (ad 0)), (1, .ref (ad x1)), (2, .int x2), (3, .int x3), (5, .int x5)]) hx hb dX7_bestEdge_63 hl (by decide) rfl (fun ls hl => ?_)
      refine lv_iload hx hb dX7_bestEdge_65 (lv_at hl 5 rfl) ?_
      refine lv_istore_n (lv' := [(3, .int x5), (4, .int y10), (0, .ref (ad 0)), (1, .ref (ad x1)), (2, .int x2), (5, .int x5)]) hx hb dX7_bestEdge_67 rfl hl (by decide) rfl (fun ls hl => ?_)
      obtain ⟨y11, ey11⟩ : ∃ z : Int32, z = x5 + 1 := ⟨_, rfl⟩
      have hf := sq_e hf y11 ey11
      refine lv_iinc (v := y11) (lv' := [(5, .int y11), (3, .int x5), (4, .int y10), (0, .ref (ad 0)), (1, .ref (ad x1)), (2, .int x2)]) hx hb dX7_bestEdge_68 hl (k := 5) rfl (by rw [ey11]; rfl) (by decide) rfl (fun ls hl => ?_)
      refine lv_goto (tgt := 8) hx hb dX7_bestEdge_71 (by decide) ?_
      exact hK8 σ7 x1 x2 x5 y10 y11 _ _ _ hB (lv_sub hl [3, 4, 5, 1, 2, 0] rfl) hf
def lc_X7_bestEdge_8 (n : Nat) : Nat → CS → Nat → Int32 → Int32 → Int32 → Int32 → Option ((Int32) × CS)
  | 0 => fun _ _ _ _ _ _ => none
  | k + 1 => bc_X7_bestEdge_8 n (lc_X7_bestEdge_8 n k)
theorem tlc_X7_bestEdge_8 {p : Program} {l : Launch} {e : Env} {s : State} {m : MethodId} {args : Array Value} {below : List Frame} {meth : Method} {c : Code} {D : va_G} {A : Nat → Prop} {ad : Nat → Nat} {cy : CY} {z : CZ} {r0 : Int32} {σ0 : CS} (hc : cxB RX7 wsC cX7_bestEdge 6 (some .int) p s m args meth c) (hV : cV D cy z A s) (n : Nat) : ∀ (k : Nat) (σ : CS) (x1 : Nat) (x2 : Int32) (x3 : Int32) (x4 : Int32) (x5 : Int32) (H : Heap) (locs : List Loc) (ls : Array Slot), cB D ad cy A s.heap σ H locs → lv_has ls 6 [(0, .ref (ad 0)), (1, .ref (ad x1)), (2, .int x2), (3, .int x3), (4, .int x4), (5, .int x5)] → lc_X7_bestEdge_8 n k σ x1 x2 x3 x4 x5 = some (r0, σ0) → W p l e rm_X7_bestEdge s m args below meth c H locs 0 0 (MQ below (cQ D ad cy A (some (.int r0)) σ0) args s 0 0 A) (F0 m 8 ls []) := by
  intro k
  induction k with
  | zero =>
    intro σ x1 x2 x3 x4 x5 H locs ls hB hl hf
    have hf : (none : Option ((Int32) × CS)) = some (r0, σ0) := hf
    cases hf
  | succ k ih =>
    intro σ x1 x2 x3 x4 x5 H locs ls hB hl hf
    exact tbc_X7_bestEdge_8 hc hV n (lc_X7_bestEdge_8 n k) ih σ x1 x2 x3 x4 x5 hB hl hf
def fc_X7_bestEdge (n : Nat) (σ : CS) (x1 : Nat) (x2 : Int32) : Option ((Int32) × CS) := sq (0 : Int32) (fun y1 => sq ((-1) : Int32) (fun y2 => sq (0 : Int32) (fun y3 => lc_X7_bestEdge_8 n n σ x1 x2 y1 y2 y3)))
set_option maxRecDepth 100000 in
set_option maxHeartbeats 4000000 in
theorem tbc_X7_bestEdge_0 {p : Program} {l : Launch} {e : Env} {s : State} {m : MethodId} {args : Array Value} {below : List Frame} {meth : Method} {c : Code} {D : va_G} {A : Nat → Prop} {ad : Nat → Nat} {cy : CY} {z : CZ} {r0 : Int32} {σ0 : CS} (hc : cxB RX7 wsC cX7_bestEdge 6 (some .int) p s m args meth c) (hV : cV D cy z A s) (n : Nat) (σ : CS) (x1 : Nat) (x2 : Int32) {H : Heap} {locs : List Loc} {ls : Array Slot} (hB : cB D ad cy A s.heap σ H locs) (hl : lv_has ls 6 [(0, .ref (ad 0)), (1, .ref (ad x1)), (2, .int x2)]) (hf : fc_X7_bestEdge n σ x1 x2 = some (r0, σ0)) : W p l e rm_X7_bestEdge s m args below meth c H locs 0 0 (MQ below (cQ D ad cy A (some (.int r0)) σ0) args s 0 0 A) (F0 m 0 ls []) := by
  obtain ⟨hx, hb, hml, hown, hts, hr, hlocks⟩ := id hc
  unfold fc_X7_bestEdge at hf
  refine lv_iconst (v := 0) hx hb dX7_bestEdge_0 (by decide) ?_
  refine lv_topi (fun y1 ey1 => ?_)
  have hf := sq_e hf y1 ey1
  refine lv_istore_n (lv' := [(3, .int y1), (0, .ref (ad 0)), (1, .ref (ad x1)), (2, .int x2)]) hx hb dX7_bestEdge_1 rfl hl (by decide) rfl (fun ls hl => ?_)
  refine lv_iconst (v := (-1)) hx hb dX7_bestEdge_2 (by decide) ?_
  refine lv_topi (fun y2 ey2 => ?_)
  have hf := sq_e hf y2 ey2
  refine lv_istore (lv' := [(4, .int y2), (3, .int y1), (0, .ref (ad 0)), (1, .ref (ad x1)), (2, .int x2)]) hx hb dX7_bestEdge_3 hl (by decide) rfl (fun ls hl => ?_)
  refine lv_iconst (v := 0) hx hb dX7_bestEdge_5 (by decide) ?_
  refine lv_topi (fun y3 ey3 => ?_)
  have hf := sq_e hf y3 ey3
  refine lv_istore (lv' := [(5, .int y3), (4, .int y2), (3, .int y1), (0, .ref (ad 0)), (1, .ref (ad x1)), (2, .int x2)]) hx hb dX7_bestEdge_6 hl (by decide) rfl (fun ls hl => ?_)
  exact tlc_X7_bestEdge_8 hc hV n n σ x1 x2 y1 y2 y3 _ _ _ hB (lv_sub hl [3, 4, 5, 2, 1, 0] rfl) hf
theorem cc_X7_bestEdge (l : Launch) (D : va_G) (ad : Nat → Nat) (cy : CY) (z : CZ) (n : Nat) (σ : CS) (x1 : Nat) (x2 : Int32) {r0 : Int32} {σ0 : CS} (hf : fc_X7_bestEdge n σ x1 x2 = some (r0, σ0)) : cM l yX7_bestEdge wn_X7_bestEdge rm_X7_bestEdge D ad cy z [.ref (ad 0), .ref (ad x1), .int x2] σ (some (.int r0)) σ0 :=
  rc_met (ret := (some .int)) (by decide) rfl (Nat.le_of_ble_eq_true rfl) (fun p e s m below meth c A ls hc hV hB hl => tbc_X7_bestEdge_0 hc hV n σ x1 x2 hB hl hf)
