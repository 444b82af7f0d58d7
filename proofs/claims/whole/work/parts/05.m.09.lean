/-! leg -/
abbrev rm_leg : Room := { frames := 1, cells := 0, slots := 0, locals := 22 }
abbrev wn_leg : List Cond := .code yX8_leg cX8_leg 4 (some .int) :: wsM
def bm_leg_37 (n : Nat) (σ : MS) (x1 : Int32) (x2 : Int32) (x3 : Int32) : Option (Int32 × MS) := if (x3 = 0) then (ck (ib (σ.1 0 52) 4) (sq (mp σ 22 (Int32.toNatClampNeg (σ.1 0 52)) x1) (fun σ3 => ck (ib (σ3.1 0 52) 4) (sq (mp σ3 23 (Int32.toNatClampNeg (σ3.1 0 52)) x2) (fun σ5 => sq (mp σ5 0 52 ((σ5.1 0 52) + 1)) (fun σ6 => some ((σ6.1 0 52), σ6))))))) else (bd (fm_no n σ x3) (fun r7 σ8 => some (r7, σ8)))
set_option maxRecDepth 100000 in
set_option maxHeartbeats 4000000 in
theorem tbm_leg_37 {p : Program} {l : Launch} {e : Env} {s : State} {m : MethodId} {args : Array Value} {below : List Frame} {meth : Method} {c : Code} {D : va_G} {A : Nat → Prop} {ad : Nat → Nat} {cy : ClassId} {r0 : Int32} {σ0 : MS} (hc : cxB RX8 wsM cX8_leg 4 (some .int) p s m args meth c) (hK : va_K D vwCl [(cy, .int)] s) (hA : ∀ q, s.heap.size ≤ q → A q) (n : Nat) (σ : MS) (x1 : Int32) (x2 : Int32) (x3 : Int32) {H : Heap} {locs : List Loc} {ls : Array Slot} (hB : mB D ad cy A s.heap σ H locs) (hl : lv_has ls 4 [(0, .ref (ad 0)), (1, .int x1), (2, .int x2), (3, .int x3)]) (hf : bm_leg_37 n σ x1 x2 x3 = some (r0, σ0)) : W p l e rm_leg s m args below meth c H locs 0 0 (MQ below (mQi D ad cy A r0 σ0) args s 0 0 A) (F0 m 37 ls []) := by
  obtain ⟨hx, hb, hml, hown, hts, hr, hlocks⟩ := id hc
  unfold bm_leg_37 at hf
  refine lv_iload_n hx hb dX8_leg_37 rfl (lv_at hl 3 rfl) ?_
  refine lv_if_eq (tgt := 47) hx hb dX8_leg_38 (by decide) (fun c1 => ?_) (fun c1 => ?_)
  · have hf := it_t hf c1
    refine lv_aload_n hx hb dX8_leg_47 rfl (lv_at hl 0 rfl) ?_
    refine rm_get hx hb hts inM hown hK hB 50 (Nat.le_of_ble_eq_true rfl) qf_77 rfl dX8_leg_48 ?_
    refine lv_aload_n hx hb dX8_leg_51 rfl (lv_at hl 0 rfl) ?_
    refine rm_get hx hb hts inM hown hK hB 52 (Nat.le_of_ble_eq_true rfl) qf_307 rfl dX8_leg_52 ?_
    refine lv_iload_n hx hb dX8_leg_55 rfl (lv_at hl 1 rfl) ?_
    obtain ⟨k2, hf⟩ := ck_e hf
    refine rm_ast hx hb hK hB 22 rfl (msa_22 _ _ _) k2 dX8_leg_56 (fun σ3 eσ3 H locs hB => ?_)
    have hf := sq_e hf σ3 eσ3
    refine lv_aload_n hx hb dX8_leg_57 rfl (lv_at hl 0 rfl) ?_
    refine rm_get hx hb hts inM hown hK hB 51 (Nat.le_of_ble_eq_true rfl) qf_80 rfl dX8_leg_58 ?_
    refine lv_aload_n hx hb dX8_leg_61 rfl (lv_at hl 0 rfl) ?_
    refine rm_get hx hb hts inM hown hK hB 52 (Nat.le_of_ble_eq_true rfl) qf_307 rfl dX8_leg_62 ?_
    refine lv_iload_n hx hb dX8_leg_65 rfl (lv_at hl 2 rfl) ?_
    obtain ⟨k4, hf⟩ := ck_e hf
    refine rm_ast hx hb hK hB 23 rfl (msa_23 _ _ _) k4 dX8_leg_66 (fun σ5 eσ5 H locs hB => ?_)
    have hf := sq_e hf σ5 eσ5
    refine lv_aload_n hx hb dX8_leg_67 rfl (lv_at hl 0 rfl) ?_
    refine lv_dup hx hb dX8_leg_68 rfl ?_
    refine rm_get hx hb hts inM hown hK hB 52 (Nat.le_of_ble_eq_true rfl) qf_307 rfl dX8_leg_69 ?_
    refine lv_iconst (v := 1) hx hb dX8_leg_72 (by decide) ?_
    refine lv_iadd hx hb dX8_leg_73 ?_
    refine rm_puti hx hb hts inM hown hK hB 52 (Nat.le_of_ble_eq_true rfl) qf_307 (ms_52 _ _ _) rfl pd_52 rfl rfl dX8_leg_74 (fun σ6 eσ6 H locs hB => ?_)
    have hf := sq_e hf σ6 eσ6
    refine lv_aload_n hx hb dX8_leg_77 rfl (lv_at hl 0 rfl) ?_
    refine rm_get hx hb hts inM hown hK hB 52 (Nat.le_of_ble_eq_true rfl) qf_307 rfl dX8_leg_78 ?_
    obtain ⟨rfl, rfl⟩ := so_e hf
    exact rm_iret hx hb hr hlocks hK hB dX8_leg_81
  · have hf := it_f hf c1
    refine lv_aload_n hx hb dX8_leg_41 rfl (lv_at hl 0 rfl) ?_
    refine lv_iload_n hx hb dX8_leg_42 rfl (lv_at hl 3 rfl) ?_
    obtain ⟨r7, σ8, hkr7, hf⟩ := bd_e hf
    refine rm_calliV (av := [.int x3]) (rest := []) hx hb hml hown hts hl.1 hK hA hB (cm_no l D ad cy n σ x3 hkr7) (kw_no hts ⟨Nat.le_of_ble_eq_true rfl, Nat.le_of_ble_eq_true rfl⟩) rfl rfl (lv_room (Nat.le_of_ble_eq_true rfl)) dX8_leg_43 (Nat.le_refl _) (Nat.le_refl _) (fun H locs hB => ?_)
    obtain ⟨rfl, rfl⟩ := so_e hf
    exact rm_iret hx hb hr hlocks hK hB dX8_leg_46
def fm_leg (n : Nat) (σ : MS) (x1 : Int32) (x2 : Int32) : Option (Int32 × MS) := bd (fm_isFloor n σ x1) (fun r1 σ2 => if (r1 = 0) then (bd (fm_no n σ2 (-1)) (fun r9 σ10 => some (r9, σ10))) else (bd (fm_bound n σ2 x2 1 999) (fun r4 σ5 => if (r4 = 0) then (if ((σ5.1 0 52) = 4) then (sq ((-6) : Int32) (fun y8 => bm_leg_37 n σ5 x1 x2 y8)) else (bm_leg_37 n σ5 x1 x2 r4)) else (bm_leg_37 n σ5 x1 x2 r4))))
set_option maxRecDepth 100000 in
set_option maxHeartbeats 4000000 in
theorem tbm_leg_0 {p : Program} {l : Launch} {e : Env} {s : State} {m : MethodId} {args : Array Value} {below : List Frame} {meth : Method} {c : Code} {D : va_G} {A : Nat → Prop} {ad : Nat → Nat} {cy : ClassId} {r0 : Int32} {σ0 : MS} (hc : cxB RX8 wsM cX8_leg 4 (some .int) p s m args meth c) (hK : va_K D vwCl [(cy, .int)] s) (hA : ∀ q, s.heap.size ≤ q → A q) (n : Nat) (σ : MS) (x1 : Int32) (x2 : Int32) {H : Heap} {locs : List Loc} {ls : Array Slot} (hB : mB D ad cy A s.heap σ H locs) (hl : lv_has ls 4 [(0, .ref (ad 0)), (1, .int x1), (2, .int x2)]) (hf : fm_leg n σ x1 x2 = some (r0, σ0)) : W p l e rm_leg s m args below meth c H locs 0 0 (MQ below (mQi D ad cy A r0 σ0) args s 0 0 A) (F0 m 0 ls []) := by
  obtain ⟨hx, hb, hml, hown, hts, hr, hlocks⟩ := id hc
  unfold fm_leg at hf
  refine lv_iload_n hx hb dX8_leg_0 rfl (lv_at hl 1 rfl) ?_
  obtain ⟨r1, σ2, hkr1, hf⟩ := bd_e hf
  refine rm_calliS (av := [.int x1]) (rest := []) hx hb hml hown hts hl.1 hK hA hB (cm_isFloor l D ad cy n σ x1 hkr1) (kw_isFloor hts ⟨Nat.le_of_ble_eq_true rfl, Nat.le_of_ble_eq_true rfl⟩) rfl rfl (lv_room (Nat.le_of_ble_eq_true rfl)) dX8_leg_1 (Nat.le_refl _) (Nat.le_refl _) (fun H locs hB => ?_)
  refine lv_if_ne (tgt := 13) hx hb dX8_leg_4 (by decide) (fun c3 => ?_) (fun c3 => ?_)
  · have hf := it_f hf c3
    refine lv_iload_n hx hb dX8_leg_13 rfl (lv_at hl 2 rfl) ?_
    refine lv_iconst (v := 1) hx hb dX8_leg_14 (by decide) ?_
    refine lv_sipush (v := 999) hx hb dX8_leg_15 (by decide) ?_
    obtain ⟨r4, σ5, hkr4, hf⟩ := bd_e hf
    refine rm_calliS (av := [.int x2, .int 1, .int 999]) (rest := []) hx hb hml hown hts hl.1 hK hA hB (cm_bound l D ad cy n σ2 x2 1 999 hkr4) (kw_bound hts ⟨Nat.le_of_ble_eq_true rfl, Nat.le_of_ble_eq_true rfl⟩) rfl rfl (lv_room (Nat.le_of_ble_eq_true rfl)) dX8_leg_18 (Nat.le_refl _) (Nat.le_refl _) (fun H locs hB => ?_)
    refine lv_istore_n (lv' := [(3, .int r4), (0, .ref (ad 0)), (1, .int x1), (2, .int x2)]) hx hb dX8_leg_21 rfl hl (by decide) rfl (fun ls hl => ?_)
    refine lv_iload_n hx hb dX8_leg_22 rfl (lv_at hl 0 rfl) ?_
    refine lv_if_ne (tgt := 37) hx hb dX8_leg_23 (by decide) (fun c6 => ?_) (fun c6 => ?_)
    · have hf := it_f hf c6
      exact tbm_leg_37 hc hK hA n σ5 x1 x2 r4 hB (lv_sub hl [1, 2, 3, 0] rfl) hf
    · have hf := it_t hf c6
      refine lv_aload_n hx hb dX8_leg_26 rfl (lv_at hl 1 rfl) ?_
      refine rm_get hx hb hts inM hown hK hB 52 (Nat.le_of_ble_eq_true rfl) qf_307 rfl dX8_leg_27 ?_
      refine lv_iconst (v := 4) hx hb dX8_leg_30 (by decide) ?_
      refine lv_icmp_ne (tgt := 37) hx hb dX8_leg_31 (by decide) (fun c7 => ?_) (fun c7 => ?_)
      · have hf := it_f hf c7
        exact tbm_leg_37 hc hK hA n σ5 x1 x2 r4 hB (lv_sub hl [1, 2, 3, 0] rfl) hf
      · have hf := it_t hf c7
        refine lv_bipush (v := (-6)) hx hb dX8_leg_34 (by decide) ?_
        refine lv_topi (fun y8 ey8 => ?_)
        have hf := sq_e hf y8 ey8
        refine lv_istore_n (lv' := [(3, .int y8), (0, .ref (ad 0)), (1, .int x1), (2, .int x2)]) hx hb dX8_leg_36 rfl hl (by decide) rfl (fun ls hl => ?_)
        exact tbm_leg_37 hc hK hA n σ5 x1 x2 y8 hB (lv_sub hl [1, 2, 3, 0] rfl) hf
  · have hf := it_t hf c3
    refine lv_aload_n hx hb dX8_leg_7 rfl (lv_at hl 0 rfl) ?_
    refine lv_iconst (v := (-1)) hx hb dX8_leg_8 (by decide) ?_
    obtain ⟨r9, σ10, hkr9, hf⟩ := bd_e hf
    refine rm_calliV (av := [.int (-1)]) (rest := []) hx hb hml hown hts hl.1 hK hA hB (cm_no l D ad cy n σ2 (-1) hkr9) (kw_no hts ⟨Nat.le_of_ble_eq_true rfl, Nat.le_of_ble_eq_true rfl⟩) rfl rfl (lv_room (Nat.le_of_ble_eq_true rfl)) dX8_leg_9 (Nat.le_refl _) (Nat.le_refl _) (fun H locs hB => ?_)
    obtain ⟨rfl, rfl⟩ := so_e hf
    exact rm_iret hx hb hr hlocks hK hB dX8_leg_12
theorem cm_leg (l : Launch) (D : va_G) (ad : Nat → Nat) (cy : ClassId) (n : Nat) (σ : MS) (x1 : Int32) (x2 : Int32) {r0 : Int32} {σ0 : MS} (hf : fm_leg n σ x1 x2 = some (r0, σ0)) : mMi l yX8_leg wn_leg rm_leg D ad cy [.ref (ad 0), .int x1, .int x2] σ r0 σ0 :=
  rm_meti (ret := (some .int)) (by decide) rfl (Nat.le_of_ble_eq_true rfl) (fun p e s m below meth c A ls hc hK hA hB hl => tbm_leg_0 hc hK hA n σ x1 x2 hB hl hf)
/-! legs -/
abbrev rm_legs : Room := { frames := 5, cells := 0, slots := 0, locals := 125 }
abbrev wn_legs : List Cond := .code yX8_legs cX8_legs 6 (some .int) :: wsM
def bm_legs_109 (n : Nat) (K74 : MS → Int32 → Int32 → Option (Int32 × MS)) (σ : MS) (x4 : Int32) (x5 : Int32) : Option (Int32 × MS) := ck (ib x4 4) (sq ((σ.1 22 (Int32.toNatClampNeg x4)) : Int32) (fun y2 => sq (mp σ 0 27 y2) (fun σ3 => bd (fm_goes n σ3 1) (fun r4 σ5 => sq (mp σ5 0 35 r4) (fun σ6 => if (x5 ≤ 0) then (sq ((x5 - 0) : Int32) (fun y8 => K74 σ6 x4 y8)) else (sq ((x5 - 1) : Int32) (fun y9 => K74 σ6 x4 y9)))))))
set_option maxRecDepth 100000 in
set_option maxHeartbeats 4000000 in
theorem tbm_legs_109 {p : Program} {l : Launch} {e : Env} {s : State} {m : MethodId} {args : Array Value} {below : List Frame} {meth : Method} {c : Code} {D : va_G} {A : Nat → Prop} {ad : Nat → Nat} {cy : ClassId} {r0 : Int32} {σ0 : MS} (hc : cxB RX8 wsM cX8_legs 6 (some .int) p s m args meth c) (hK : va_K D vwCl [(cy, .int)] s) (hA : ∀ q, s.heap.size ≤ q → A q) (n : Nat) (K74 : MS → Int32 → Int32 → Option (Int32 × MS)) (hK74 : ∀ (σ : MS) (x4 : Int32) (x5 : Int32) (H : Heap) (locs : List Loc) (ls : Array Slot), mB D ad cy A s.heap σ H locs → lv_has ls 6 [(0, .ref (ad 0)), (4, .int x4), (5, .int x5)] → K74 σ x4 x5 = some (r0, σ0) → W p l e rm_legs s m args below meth c H locs 0 0 (MQ below (mQi D ad cy A r0 σ0) args s 0 0 A) (F0 m 74 ls [])) (σ : MS) (x4 : Int32) (x5 : Int32) {H : Heap} {locs : List Loc} {ls : Array Slot} (hB : mB D ad cy A s.heap σ H locs) (hl : lv_has ls 6 [(0, .ref (ad 0)), (4, .int x4), (5, .int x5)]) (hf : bm_legs_109 n K74 σ x4 x5 = some (r0, σ0)) : W p l e rm_legs s m args below meth c H locs 0 0 (MQ below (mQi D ad cy A r0 σ0) args s 0 0 A) (F0 m 109 ls []) := by
  obtain ⟨hx, hb, hml, hown, hts, hr, hlocks⟩ := id hc
  unfold bm_legs_109 at hf
  refine lv_aload_n hx hb dX8_legs_109 rfl (lv_at hl 0 rfl) ?_
  refine lv_aload_n hx hb dX8_legs_110 rfl (lv_at hl 0 rfl) ?_
  refine rm_get hx hb hts inM hown hK hB 50 (Nat.le_of_ble_eq_true rfl) qf_77 rfl dX8_legs_111 ?_
  refine lv_iload hx hb dX8_legs_114 (lv_at hl 1 rfl) ?_
  obtain ⟨k1, hf⟩ := ck_e hf
  refine rm_ald hx hb hK hB 22 rfl k1 dX8_legs_116 ?_
  refine lv_topi (fun y2 ey2 => ?_)
  have hf := sq_e hf y2 ey2
  refine rm_puti hx hb hts inM hown hK hB 27 (Nat.le_of_ble_eq_true rfl) qf_197 (ms_27 _ _ _) rfl pd_27 rfl rfl dX8_legs_117 (fun σ3 eσ3 H locs hB => ?_)
  have hf := sq_e hf σ3 eσ3
  refine lv_aload_n hx hb dX8_legs_120 rfl (lv_at hl 0 rfl) ?_
  refine lv_aload_n hx hb dX8_legs_121 rfl (lv_at hl 0 rfl) ?_
  refine lv_iconst (v := 1) hx hb dX8_legs_122 (by decide) ?_
  obtain ⟨r4, σ5, hkr4, hf⟩ := bd_e hf
  refine rm_calliV (av := [.int 1]) (rest := [.ref (ad 0)]) hx hb hml hown hts hl.1 hK hA hB (cm_goes l D ad cy n σ3 1 hkr4) (kw_goes hts ⟨Nat.le_of_ble_eq_true rfl, Nat.le_of_ble_eq_true rfl⟩) rfl rfl (lv_room (Nat.le_of_ble_eq_true rfl)) dX8_legs_123 (Nat.le_refl _) (Nat.le_refl _) (fun H locs hB => ?_)
  refine rm_puti hx hb hts inM hown hK hB 35 (Nat.le_of_ble_eq_true rfl) qf_225 (ms_35 _ _ _) rfl pd_35 rfl rfl dX8_legs_126 (fun σ6 eσ6 H locs hB => ?_)
  have hf := sq_e hf σ6 eσ6
  refine lv_iload hx hb dX8_legs_129 (lv_at hl 2 rfl) ?_
  refine lv_iload hx hb dX8_legs_131 (lv_at hl 2 rfl) ?_
  refine lv_if_le (tgt := 140) hx hb dX8_legs_133 (by decide) (fun c7 => ?_) (fun c7 => ?_)
  · have hf := it_t hf c7
    refine lv_iconst (v := 0) hx hb dX8_legs_140 (by decide) ?_
    refine lv_isub hx hb dX8_legs_141 ?_
    refine lv_topi (fun y8 ey8 => ?_)
    have hf := sq_e hf y8 ey8
    refine lv_istore (lv' := [(5, .int y8), (0, .ref (ad 0)), (4, .int x4)]) hx hb dX8_legs_142 hl (by decide) rfl (fun ls hl => ?_)
    refine lv_goto (tgt := 74) hx hb dX8_legs_144 (by decide) ?_
    exact hK74 σ6 x4 y8 _ _ _ hB (lv_sub hl [1, 2, 0] rfl) hf
  · have hf := it_f hf c7
    refine lv_iconst (v := 1) hx hb dX8_legs_136 (by decide) ?_
    refine lv_goto (tgt := 141) hx hb dX8_legs_137 (by decide) ?_
    refine lv_isub hx hb dX8_legs_141 ?_
    refine lv_topi (fun y9 ey9 => ?_)
    have hf := sq_e hf y9 ey9
    refine lv_istore (lv' := [(5, .int y9), (0, .ref (ad 0)), (4, .int x4)]) hx hb dX8_legs_142 hl (by decide) rfl (fun ls hl => ?_)
    refine lv_goto (tgt := 74) hx hb dX8_legs_144 (by decide) ?_
    exact hK74 σ6 x4 y9 _ _ _ hB (lv_sub hl [1, 2, 0] rfl) hf
def bm_legs_74 (n : Nat) (K74 : MS → Int32 → Int32 → Option (Int32 × MS)) (σ : MS) (x4 : Int32) (x5 : Int32) : Option (Int32 × MS) := if ((σ.1 0 35) = 0) then (if (x5 = 0) then (if (((σ.1 0 52) - 1) ≤ x4) then (bm_legs_109 n K74 σ x4 x5) else (sq (x4 + 1 : Int32) (fun y5 => ck (ib y5 4) (sq ((σ.1 23 (Int32.toNatClampNeg y5)) : Int32) (fun y7 => bm_legs_109 n K74 σ y5 y7))))) else (bm_legs_109 n K74 σ x4 x5)) else (sq (mp σ 0 52 0) (fun σ2 => some ((σ2.1 0 29), σ2)))
set_option maxRecDepth 100000 in
set_option maxHeartbeats 4000000 in
theorem tbm_legs_74 {p : Program} {l : Launch} {e : Env} {s : State} {m : MethodId} {args : Array Value} {below : List Frame} {meth : Method} {c : Code} {D : va_G} {A : Nat → Prop} {ad : Nat → Nat} {cy : ClassId} {r0 : Int32} {σ0 : MS} (hc : cxB RX8 wsM cX8_legs 6 (some .int) p s m args meth c) (hK : va_K D vwCl [(cy, .int)] s) (hA : ∀ q, s.heap.size ≤ q → A q) (n : Nat) (K74 : MS → Int32 → Int32 → Option (Int32 × MS)) (hK74 : ∀ (σ : MS) (x4 : Int32) (x5 : Int32) (H : Heap) (locs : List Loc) (ls : Array Slot), mB D ad cy A s.heap σ H locs → lv_has ls 6 [(0, .ref (ad 0)), (4, .int x4), (5, .int x5)] → K74 σ x4 x5 = some (r0, σ0) → W p l e rm_legs s m args below meth c H locs 0 0 (MQ below (mQi D ad cy A r0 σ0) args s 0 0 A) (F0 m 74 ls [])) (σ : MS) (x4 : Int32) (x5 : Int32) {H : Heap} {locs : List Loc} {ls : Array Slot} (hB : mB D ad cy A s.heap σ H locs) (hl : lv_has ls 6 [(0, .ref (ad 0)), (4, .int x4), (5, .int x5)]) (hf : bm_legs_74 n K74 σ x4 x5 = some (r0, σ0)) : W p l e rm_legs s m args below meth c H locs 0 0 (MQ below (mQi D ad cy A r0 σ0) args s 0 0 A) (F0 m 74 ls []) := by
  obtain ⟨hx, hb, hml, hown, hts, hr, hlocks⟩ := id hc
  unfold bm_legs_74 at hf
  refine lv_aload_n hx hb dX8_legs_74 rfl (lv_at hl 0 rfl) ?_
  refine rm_get hx hb hts inM hown hK hB 35 (Nat.le_of_ble_eq_true rfl) qf_225 rfl dX8_legs_75 ?_
  refine lv_if_ne (tgt := 147) hx hb dX8_legs_78 (by decide) (fun c1 => ?_) (fun c1 => ?_)
  · have hf := it_f hf c1
    refine lv_aload_n hx hb dX8_legs_147 rfl (lv_at hl 0 rfl) ?_
    refine lv_iconst (v := 0) hx hb dX8_legs_148 (by decide) ?_
    refine rm_puti hx hb hts inM hown hK hB 52 (Nat.le_of_ble_eq_true rfl) qf_307 (ms_52 _ _ _) rfl pd_52 rfl rfl dX8_legs_149 (fun σ2 eσ2 H locs hB => ?_)
    have hf := sq_e hf σ2 eσ2
    refine lv_aload_n hx hb dX8_legs_152 rfl (lv_at hl 0 rfl) ?_
    refine rm_get hx hb hts inM hown hK hB 29 (Nat.le_of_ble_eq_true rfl) qf_203 rfl dX8_legs_153 ?_
    obtain ⟨rfl, rfl⟩ := so_e hf
    exact rm_iret hx hb hr hlocks hK hB dX8_legs_156
  · have hf := it_t hf c1
    refine lv_iload hx hb dX8_legs_81 (lv_at hl 2 rfl) ?_
    refine lv_if_ne (tgt := 109) hx hb dX8_legs_83 (by decide) (fun c3 => ?_) (fun c3 => ?_)
    · have hf := it_f hf c3
      exact tbm_legs_109 hc hK hA n K74 hK74 σ x4 x5 hB (lv_sub hl [0, 1, 2] rfl) hf
    · have hf := it_t hf c3
      refine lv_iload hx hb dX8_legs_86 (lv_at hl 1 rfl) ?_
      refine lv_aload_n hx hb dX8_legs_88 rfl (lv_at hl 0 rfl) ?_
      refine rm_get hx hb hts inM hown hK hB 52 (Nat.le_of_ble_eq_true rfl) qf_307 rfl dX8_legs_89 ?_
      refine lv_iconst (v := 1) hx hb dX8_legs_92 (by decide) ?_
      refine lv_isub hx hb dX8_legs_93 ?_
      refine lv_icmp_ge (tgt := 109) hx hb dX8_legs_94 (by decide) (fun c4 => ?_) (fun c4 => ?_)
      · have hf := it_t hf c4
        exact tbm_legs_109 hc hK hA n K74 hK74 σ x4 x5 hB (lv_sub hl [0, 1, 2] rfl) hf
      · have hf := it_f hf c4
        obtain ⟨y5, ey5⟩ : ∃ z : Int32, z = x4 + 1 := ⟨_, rfl⟩
        have hf := sq_e hf y5 ey5
        refine lv_iinc (v := y5) (lv' := [(4, .int y5), (0, .ref (ad 0)), (5, .int x5)]) hx hb dX8_legs_97 hl (k := 1) rfl (by rw [ey5]; rfl) (by decide) rfl (fun ls hl => ?_)
        refine lv_aload_n hx hb dX8_legs_100 rfl (lv_at hl 1 rfl) ?_
        refine rm_get hx hb hts inM hown hK hB 51 (Nat.le_of_ble_eq_true rfl) qf_80 rfl dX8_legs_101 ?_
        refine lv_iload hx hb dX8_legs_104 (lv_at hl 0 rfl) ?_
        obtain ⟨k6, hf⟩ := ck_e hf
        refine rm_ald hx hb hK hB 23 rfl k6 dX8_legs_106 ?_
        refine lv_topi (fun y7 ey7 => ?_)
        have hf := sq_e hf y7 ey7
        refine lv_istore (lv' := [(5, .int y7), (4, .int y5), (0, .ref (ad 0))]) hx hb dX8_legs_107 hl (by decide) rfl (fun ls hl => ?_)
        exact tbm_legs_109 hc hK hA n K74 hK74 σ y5 y7 hB (lv_sub hl [2, 1, 0] rfl) hf
def lm_legs_74 (n : Nat) : Nat → MS → Int32 → Int32 → Option (Int32 × MS)
  | 0 => fun _ _ _ => none
  | k + 1 => bm_legs_74 n (lm_legs_74 n k)
theorem tlm_legs_74 {p : Program} {l : Launch} {e : Env} {s : State} {m : MethodId} {args : Array Value} {below : List Frame} {meth : Method} {c : Code} {D : va_G} {A : Nat → Prop} {ad : Nat → Nat} {cy : ClassId} {r0 : Int32} {σ0 : MS} (hc : cxB RX8 wsM cX8_legs 6 (some .int) p s m args meth c) (hK : va_K D vwCl [(cy, .int)] s) (hA : ∀ q, s.heap.size ≤ q → A q) (n : Nat) : ∀ (k : Nat) (σ : MS) (x4 : Int32) (x5 : Int32) (H : Heap) (locs : List Loc) (ls : Array Slot), mB D ad cy A s.heap σ H locs → lv_has ls 6 [(0, .ref (ad 0)), (4, .int x4), (5, .int x5)] → lm_legs_74 n k σ x4 x5 = some (r0, σ0) → W p l e rm_legs s m args below meth c H locs 0 0 (MQ below (mQi D ad cy A r0 σ0) args s 0 0 A) (F0 m 74 ls []) := by
  intro k
  induction k with
  | zero =>
    intro σ x4 x5 H locs ls hB hl hf
    have hf : (none : Option (Int32 × MS)) = some (r0, σ0) := hf
    cases hf
  | succ k ih =>
    intro σ x4 x5 H locs ls hB hl hf
    exact tbm_legs_74 hc hK hA n (lm_legs_74 n k) ih σ x4 x5 hB hl hf
def bm_legs_37 (n : Nat) (σ : MS) (x1 : Int32) (x2 : Int32) (x3 : Int32) : Option (Int32 × MS) := if (x3 = 0) then (bd (fm_all n σ) (fun r2 σ3 => bd (fm_begins n σ3 x1 x2 0 r2) (fun _ σ5 => sq (mp σ5 0 35 0) (fun σ6 => sq (0 : Int32) (fun y7 => sq ((σ6.1 23 (Int32.toNatClampNeg 0)) : Int32) (fun y8 => lm_legs_74 n n σ6 y7 y8)))))) else (bd (fm_no n σ x3) (fun r9 σ10 => some (r9, σ10)))
set_option maxRecDepth 100000 in
set_option maxHeartbeats 4000000 in
theorem tbm_legs_37 {p : Program} {l : Launch} {e : Env} {s : State} {m : MethodId} {args : Array Value} {below : List Frame} {meth : Method} {c : Code} {D : va_G} {A : Nat → Prop} {ad : Nat → Nat} {cy : ClassId} {r0 : Int32} {σ0 : MS} (hc : cxB RX8 wsM cX8_legs 6 (some .int) p s m args meth c) (hK : va_K D vwCl [(cy, .int)] s) (hA : ∀ q, s.heap.size ≤ q → A q) (n : Nat) (σ : MS) (x1 : Int32) (x2 : Int32) (x3 : Int32) {H : Heap} {locs : List Loc} {ls : Array Slot} (hB : mB D ad cy A s.heap σ H locs) (hl : lv_has ls 6 [(0, .ref (ad 0)), (1, .int x1), (2, .int x2), (3, .int x3)]) (hf : bm_legs_37 n σ x1 x2 x3 = some (r0, σ0)) : W p l e rm_legs s m args below meth c H locs 0 0 (MQ below (mQi D ad cy A r0 σ0) args s 0 0 A) (F0 m 37 ls []) := by
  obtain ⟨hx, hb, hml, hown, hts, hr, hlocks⟩ := id hc
  unfold bm_legs_37 at hf
  refine lv_iload_n hx hb dX8_legs_37 rfl (lv_at hl 3 rfl) ?_
  refine lv_if_eq (tgt := 47) hx hb dX8_legs_38 (by decide) (fun c1 => ?_) (fun c1 => ?_)
  · have hf := it_t hf c1
    refine lv_aload_n hx hb dX8_legs_47 rfl (lv_at hl 0 rfl) ?_
    refine lv_iload_n hx hb dX8_legs_48 rfl (lv_at hl 1 rfl) ?_
    refine lv_iload_n hx hb dX8_legs_49 rfl (lv_at hl 2 rfl) ?_
    refine lv_iconst (v := 0) hx hb dX8_legs_50 (by decide) ?_
    refine lv_aload_n hx hb dX8_legs_51 rfl (lv_at hl 0 rfl) ?_
    obtain ⟨r2, σ3, hkr2, hf⟩ := bd_e hf
    refine rm_calliV (av := []) (rest := [.int 0, .int x2, .int x1, .ref (ad 0)]) hx hb hml hown hts hl.1 hK hA hB (cm_all l D ad cy n σ hkr2) (kw_all hts ⟨Nat.le_of_ble_eq_true rfl, Nat.le_of_ble_eq_true rfl⟩) rfl rfl (lv_room (Nat.le_of_ble_eq_true rfl)) dX8_legs_52 (Nat.le_refl _) (Nat.le_refl _) (fun H locs hB => ?_)
    obtain ⟨r4, σ5, hkr4, hf⟩ := bd_e hf
    refine rm_callvV (av := [.int x1, .int x2, .int 0, .int r2]) (rest := []) hx hb hml hown hts hl.1 hK hA hB (cm_begins l D ad cy n σ3 x1 x2 0 r2 hkr4) (kw_begins hts ⟨Nat.le_of_ble_eq_true rfl, Nat.le_of_ble_eq_true rfl⟩) rfl rfl (lv_room (Nat.le_of_ble_eq_true rfl)) dX8_legs_55 (Nat.le_refl _) (Nat.le_refl _) (fun H locs hB => ?_)
    refine lv_aload_n hx hb dX8_legs_58 rfl (lv_at hl 0 rfl) ?_
    refine lv_iconst (v := 0) hx hb dX8_legs_59 (by decide) ?_
    refine rm_puti hx hb hts inM hown hK hB 35 (Nat.le_of_ble_eq_true rfl) qf_225 (ms_35 _ _ _) rfl pd_35 rfl rfl dX8_legs_60 (fun σ6 eσ6 H locs hB => ?_)
    have hf := sq_e hf σ6 eσ6
    refine lv_iconst (v := 0) hx hb dX8_legs_63 (by decide) ?_
    refine lv_topi (fun y7 ey7 => ?_)
    have hf := sq_e hf y7 ey7
    refine lv_istore (lv' := [(4, .int y7), (0, .ref (ad 0)), (1, .int x1), (2, .int x2), (3, .int x3)]) hx hb dX8_legs_64 hl (by decide) rfl (fun ls hl => ?_)
    refine lv_aload_n hx hb dX8_legs_66 rfl (lv_at hl 1 rfl) ?_
    refine rm_get hx hb hts inM hown hK hB 51 (Nat.le_of_ble_eq_true rfl) qf_80 rfl dX8_legs_67 ?_
    refine lv_iconst (v := 0) hx hb dX8_legs_70 (by decide) ?_
    refine rm_ald hx hb hK hB 23 rfl (by decide) dX8_legs_71 ?_
    refine lv_topi (fun y8 ey8 => ?_)
    have hf := sq_e hf y8 ey8
    refine lv_istore (lv' := [(5, .int y8), (4, .int y7), (0, .ref (ad 0)), (1, .int x1), (2, .int x2), (3, .int x3)]) hx hb dX8_legs_72 hl (by decide) rfl (fun ls hl => ?_)
    exact tlm_legs_74 hc hK hA n n σ6 y7 y8 _ _ _ hB (lv_sub hl [2, 1, 0] rfl) hf
  · have hf := it_f hf c1
    refine lv_aload_n hx hb dX8_legs_41 rfl (lv_at hl 0 rfl) ?_
    refine lv_iload_n hx hb dX8_legs_42 rfl (lv_at hl 3 rfl) ?_
    obtain ⟨r9, σ10, hkr9, hf⟩ := bd_e hf
    refine rm_calliV (av := [.int x3]) (rest := []) hx hb hml hown hts hl.1 hK hA hB (cm_no l D ad cy n σ x3 hkr9) (kw_no hts ⟨Nat.le_of_ble_eq_true rfl, Nat.le_of_ble_eq_true rfl⟩) rfl rfl (lv_room (Nat.le_of_ble_eq_true rfl)) dX8_legs_43 (Nat.le_refl _) (Nat.le_refl _) (fun H locs hB => ?_)
    obtain ⟨rfl, rfl⟩ := so_e hf
    exact rm_iret hx hb hr hlocks hK hB dX8_legs_46
def fm_legs (n : Nat) (σ : MS) (x1 : Int32) (x2 : Int32) : Option (Int32 × MS) := bd (fm_isPlate n σ x1) (fun r1 σ2 => if (r1 = 0) then (bd (fm_no n σ2 (-1)) (fun r9 σ10 => some (r9, σ10))) else (bd (fm_bound n σ2 x2 0 9000) (fun r4 σ5 => if (r4 = 0) then (if ((σ5.1 0 52) = 0) then (sq ((-3) : Int32) (fun y8 => bm_legs_37 n σ5 x1 x2 y8)) else (bm_legs_37 n σ5 x1 x2 r4)) else (bm_legs_37 n σ5 x1 x2 r4))))
set_option maxRecDepth 100000 in
set_option maxHeartbeats 4000000 in
theorem tbm_legs_0 {p : Program} {l : Launch} {e : Env} {s : State} {m : MethodId} {args : Array Value} {below : List Frame} {meth : Method} {c : Code} {D : va_G} {A : Nat → Prop} {ad : Nat → Nat} {cy : ClassId} {r0 : Int32} {σ0 : MS} (hc : cxB RX8 wsM cX8_legs 6 (some .int) p s m args meth c) (hK : va_K D vwCl [(cy, .int)] s) (hA : ∀ q, s.heap.size ≤ q → A q) (n : Nat) (σ : MS) (x1 : Int32) (x2 : Int32) {H : Heap} {locs : List Loc} {ls : Array Slot} (hB : mB D ad cy A s.heap σ H locs) (hl : lv_has ls 6 [(0, .ref (ad 0)), (1, .int x1), (2, .int x2)]) (hf : fm_legs n σ x1 x2 = some (r0, σ0)) : W p l e rm_legs s m args below meth c H locs 0 0 (MQ below (mQi D ad cy A r0 σ0) args s 0 0 A) (F0 m 0 ls []) := by
  obtain ⟨hx, hb, hml, hown, hts, hr, hlocks⟩ := id hc
  unfold fm_legs at hf
  refine lv_aload_n hx hb dX8_legs_0 rfl (lv_at hl 0 rfl) ?_
  refine lv_iload_n hx hb dX8_legs_1 rfl (lv_at hl 1 rfl) ?_
  obtain ⟨r1, σ2, hkr1, hf⟩ := bd_e hf
  refine rm_calliV (av := [.int x1]) (rest := []) hx hb hml hown hts hl.1 hK hA hB (cm_isPlate l D ad cy n σ x1 hkr1) (kw_isPlate hts ⟨Nat.le_of_ble_eq_true rfl, Nat.le_of_ble_eq_true rfl⟩) rfl rfl (lv_room (Nat.le_of_ble_eq_true rfl)) dX8_legs_2 (Nat.le_refl _) (Nat.le_refl _) (fun H locs hB => ?_)
  refine lv_if_ne (tgt := 14) hx hb dX8_legs_5 (by decide) (fun c3 => ?_) (fun c3 => ?_)
  · have hf := it_f hf c3
    refine lv_iload_n hx hb dX8_legs_14 rfl (lv_at hl 2 rfl) ?_
    refine lv_iconst (v := 0) hx hb dX8_legs_15 (by decide) ?_
    refine lv_sipush (v := 9000) hx hb dX8_legs_16 (by decide) ?_
    obtain ⟨r4, σ5, hkr4, hf⟩ := bd_e hf
    refine rm_calliS (av := [.int x2, .int 0, .int 9000]) (rest := []) hx hb hml hown hts hl.1 hK hA hB (cm_bound l D ad cy n σ2 x2 0 9000 hkr4) (kw_bound hts ⟨Nat.le_of_ble_eq_true rfl, Nat.le_of_ble_eq_true rfl⟩) rfl rfl (lv_room (Nat.le_of_ble_eq_true rfl)) dX8_legs_19 (Nat.le_refl _) (Nat.le_refl _) (fun H locs hB => ?_)
    refine lv_istore_n (lv' := [(3, .int r4), (0, .ref (ad 0)), (1, .int x1), (2, .int x2)]) hx hb dX8_legs_22 rfl hl (by decide) rfl (fun ls hl => ?_)
    refine lv_iload_n hx hb dX8_legs_23 rfl (lv_at hl 0 rfl) ?_
    refine lv_if_ne (tgt := 37) hx hb dX8_legs_24 (by decide) (fun c6 => ?_) (fun c6 => ?_)
    · have hf := it_f hf c6
      exact tbm_legs_37 hc hK hA n σ5 x1 x2 r4 hB (lv_sub hl [1, 2, 3, 0] rfl) hf
    · have hf := it_t hf c6
      refine lv_aload_n hx hb dX8_legs_27 rfl (lv_at hl 1 rfl) ?_
      refine rm_get hx hb hts inM hown hK hB 52 (Nat.le_of_ble_eq_true rfl) qf_307 rfl dX8_legs_28 ?_
      refine lv_if_ne (tgt := 37) hx hb dX8_legs_31 (by decide) (fun c7 => ?_) (fun c7 => ?_)
      · have hf := it_f hf c7
        exact tbm_legs_37 hc hK hA n σ5 x1 x2 r4 hB (lv_sub hl [1, 2, 3, 0] rfl) hf
      · have hf := it_t hf c7
        refine lv_bipush (v := (-3)) hx hb dX8_legs_34 (by decide) ?_
        refine lv_topi (fun y8 ey8 => ?_)
        have hf := sq_e hf y8 ey8
        refine lv_istore_n (lv' := [(3, .int y8), (0, .ref (ad 0)), (1, .int x1), (2, .int x2)]) hx hb dX8_legs_36 rfl hl (by decide) rfl (fun ls hl => ?_)
        exact tbm_legs_37 hc hK hA n σ5 x1 x2 y8 hB (lv_sub hl [1, 2, 3, 0] rfl) hf
  · have hf := it_t hf c3
    refine lv_aload_n hx hb dX8_legs_8 rfl (lv_at hl 0 rfl) ?_
    refine lv_iconst (v := (-1)) hx hb dX8_legs_9 (by decide) ?_
    obtain ⟨r9, σ10, hkr9, hf⟩ := bd_e hf
    refine rm_calliV (av := [.int (-1)]) (rest := []) hx hb hml hown hts hl.1 hK hA hB (cm_no l D ad cy n σ2 (-1) hkr9) (kw_no hts ⟨Nat.le_of_ble_eq_true rfl, Nat.le_of_ble_eq_true rfl⟩) rfl rfl (lv_room (Nat.le_of_ble_eq_true rfl)) dX8_legs_10 (Nat.le_refl _) (Nat.le_refl _) (fun H locs hB => ?_)
    obtain ⟨rfl, rfl⟩ := so_e hf
    exact rm_iret hx hb hr hlocks hK hB dX8_legs_13
theorem cm_legs (l : Launch) (D : va_G) (ad : Nat → Nat) (cy : ClassId) (n : Nat) (σ : MS) (x1 : Int32) (x2 : Int32) {r0 : Int32} {σ0 : MS} (hf : fm_legs n σ x1 x2 = some (r0, σ0)) : mMi l yX8_legs wn_legs rm_legs D ad cy [.ref (ad 0), .int x1, .int x2] σ r0 σ0 :=
  rm_meti (ret := (some .int)) (by decide) rfl (Nat.le_of_ble_eq_true rfl) (fun p e s m below meth c A ls hc hK hA hB hl => tbm_legs_0 hc hK hA n σ x1 x2 hB hl hf)
/-! draws -/
abbrev rm_draws : Room := { frames := 7, cells := 0, slots := 0, locals := 169 }
abbrev wn_draws : List Cond := .code yX8_draws cX8_draws 12 (some .int) :: wsM
def bm_draws_168 (n : Nat) (K97 : MS → Int32 → Int32 → Int32 → Int32 → Int32 → Int32 → Int32 → Int32 → Option (Int32 × MS)) (σ : MS) (x1 : Int32) (x2 : Int32) (x3 : Int32) (x5 : Int32) (x6 : Int32) (x9 : Int32) (x10 : Int32) (t0 : Int32) : Option (Int32 × MS) := sq ((t0 + 0) : Int32) (fun y1 => sq (x10 + 1 : Int32) (fun y2 => K97 σ x1 x2 x3 x5 x6 y1 x9 y2))
set_option maxRecDepth 100000 in
set_option maxHeartbeats 4000000 in
theorem tbm_draws_168 {p : Program} {l : Launch} {e : Env} {s : State} {m : MethodId} {args : Array Value} {below : List Frame} {meth : Method} {c : Code} {D : va_G} {A : Nat → Prop} {ad : Nat → Nat} {cy : ClassId} {r0 : Int32} {σ0 : MS} (hc : cxB RX8 wsM cX8_draws 12 (some .int) p s m args meth c) (hK : va_K D vwCl [(cy, .int)] s) (hA : ∀ q, s.heap.size ≤ q → A q) (n : Nat) (K97 : MS → Int32 → Int32 → Int32 → Int32 → Int32 → Int32 → Int32 → Int32 → Option (Int32 × MS)) (hK97 : ∀ (σ : MS) (x1 : Int32) (x2 : Int32) (x3 : Int32) (x5 : Int32) (x6 : Int32) (x8 : Int32) (x9 : Int32) (x10 : Int32) (H : Heap) (locs : List Loc) (ls : Array Slot), mB D ad cy A s.heap σ H locs → lv_has ls 12 [(0, .ref (ad 0)), (1, .int x1), (2, .int x2), (3, .int x3), (5, .int x5), (6, .int x6), (8, .int x8), (9, .int x9), (10, .int x10)] → K97 σ x1 x2 x3 x5 x6 x8 x9 x10 = some (r0, σ0) → W p l e rm_draws s m args below meth c H locs 0 0 (MQ below (mQi D ad cy A r0 σ0) args s 0 0 A) (F0 m 97 ls [])) (σ : MS) (x1 : Int32) (x2 : Int32) (x3 : Int32) (x5 : Int32) (x6 : Int32) (x9 : Int32) (x10 : Int32) (t0 : Int32) {H : Heap} {locs : List Loc} {ls : Array Slot} (hB : mB D ad cy A s.heap σ H locs) (hl : lv_has ls 12 [(0, .ref (ad 0)), (1, .int x1), (2, .int x2), (3, .int x3), (5, .int x5), (6, .int x6), (9, .int x9), (10, .int x10)]) (hf : bm_draws_168 n K97 σ x1 x2 x3 x5 x6 x9 x10 t0 = some (r0, σ0)) : W p l e rm_draws s m args below meth c H locs 0 0 (MQ below (mQi D ad cy A r0 σ0) args s 0 0 A) (F0 m 168 ls [.int t0]) := by
  obtain ⟨hx, hb, hml, hown, hts, hr, hlocks⟩ := id hc
  unfold bm_draws_168 at hf
  refine lv_iconst (v := 0) hx hb dX8_draws_168 (by decide) ?_
  refine lv_iadd hx hb dX8_draws_169 ?_
  refine lv_topi (fun y1 ey1 => ?_)
  have hf := sq_e hf y1 ey1
  refine lv_istore (lv' := [(8, .int y1), (0, .ref (ad 0)), (1, .int x1), (2, .int x2), (3, .int x3), (5, .int x5), (6, .int x6), (9, .int x9), (10, .int x10)]) hx hb dX8_draws_170 hl (by decide) rfl (fun ls hl => ?_)
  obtain ⟨y2, ey2⟩ : ∃ z : Int32, z = x10 + 1 := ⟨_, rfl⟩
  have hf := sq_e hf y2 ey2
  refine lv_iinc (v := y2) (lv' := [(10, .int y2), (8, .int y1), (0, .ref (ad 0)), (1, .int x1), (2, .int x2), (3, .int x3), (5, .int x5), (6, .int x6), (9, .int x9)]) hx hb dX8_draws_172 hl (k := 8) rfl (by rw [ey2]; rfl) (by decide) rfl (fun ls hl => ?_)
  refine lv_goto (tgt := 97) hx hb dX8_draws_175 (by decide) ?_
  exact hK97 σ x1 x2 x3 x5 x6 y1 x9 y2 _ _ _ hB (lv_sub hl [2, 3, 4, 5, 6, 7, 1, 8, 0] rfl) hf
def bm_draws_164 (n : Nat) (K97 : MS → Int32 → Int32 → Int32 → Int32 → Int32 → Int32 → Int32 → Int32 → Option (Int32 × MS)) (σ : MS) (x1 : Int32) (x2 : Int32) (x3 : Int32) (x5 : Int32) (x6 : Int32) (x9 : Int32) (x10 : Int32) (t0 : Int32) : Option (Int32 × MS) := sq ((t0 + 1) : Int32) (fun y1 => sq (x10 + 1 : Int32) (fun y2 => K97 σ x1 x2 x3 x5 x6 y1 x9 y2))
set_option maxRecDepth 100000 in
set_option maxHeartbeats 4000000 in
theorem tbm_draws_164 {p : Program} {l : Launch} {e : Env} {s : State} {m : MethodId} {args : Array Value} {below : List Frame} {meth : Method} {c : Code} {D : va_G} {A : Nat → Prop} {ad : Nat → Nat} {cy : ClassId} {r0 : Int32} {σ0 : MS} (hc : cxB RX8 wsM cX8_draws 12 (some .int) p s m args meth c) (hK : va_K D vwCl [(cy, .int)] s) (hA : ∀ q, s.heap.size ≤ q → A q) (n : Nat) (K97 : MS → Int32 → Int32 → Int32 → Int32 → Int32 → Int32 → Int32 → Int32 → Option (Int32 × MS)) (hK97 : ∀ (σ : MS) (x1 : Int32) (x2 : Int32) (x3 : Int32) (x5 : Int32) (x6 : Int32) (x8 : Int32) (x9 : Int32) (x10 : Int32) (H : Heap) (locs : List Loc) (ls : Array Slot), mB D ad cy A s.heap σ H locs → lv_has ls 12 [(0, .ref (ad 0)), (1, .int x1), (2, .int x2), (3, .int x3), (5, .int x5), (6, .int x6), (8, .int x8), (9, .int x9), (10, .int x10)] → K97 σ x1 x2 x3 x5 x6 x8 x9 x10 = some (r0, σ0) → W p l e rm_draws s m args below meth c H locs 0 0 (MQ below (mQi D ad cy A r0 σ0) args s 0 0 A) (F0 m 97 ls [])) (σ : MS) (x1 : Int32) (x2 : Int32) (x3 : Int32) (x5 : Int32) (x6 : Int32) (x9 : Int32) (x10 : Int32) (t0 : Int32) {H : Heap} {locs : List Loc} {ls : Array Slot} (hB : mB D ad cy A s.heap σ H locs) (hl : lv_has ls 12 [(0, .ref (ad 0)), (1, .int x1), (2, .int x2), (3, .int x3), (5, .int x5), (6, .int x6), (9, .int x9), (10, .int x10)]) (hf : bm_draws_164 n K97 σ x1 x2 x3 x5 x6 x9 x10 t0 = some (r0, σ0)) : W p l e rm_draws s m args below meth c H locs 0 0 (MQ below (mQi D ad cy A r0 σ0) args s 0 0 A) (F0 m 164 ls [.int t0]) := by
  obtain ⟨hx, hb, hml, hown, hts, hr, hlocks⟩ := id hc
  unfold bm_draws_164 at hf
  refine lv_iconst (v := 1) hx hb dX8_draws_164 (by decide) ?_
  refine lv_goto (tgt := 169) hx hb dX8_draws_165 (by decide) ?_
  refine lv_iadd hx hb dX8_draws_169 ?_
  refine lv_topi (fun y1 ey1 => ?_)
  have hf := sq_e hf y1 ey1
  refine lv_istore (lv' := [(8, .int y1), (0, .ref (ad 0)), (1, .int x1), (2, .int x2), (3, .int x3), (5, .int x5), (6, .int x6), (9, .int x9), (10, .int x10)]) hx hb dX8_draws_170 hl (by decide) rfl (fun ls hl => ?_)
  obtain ⟨y2, ey2⟩ : ∃ z : Int32, z = x10 + 1 := ⟨_, rfl⟩
  have hf := sq_e hf y2 ey2
  refine lv_iinc (v := y2) (lv' := [(10, .int y2), (8, .int y1), (0, .ref (ad 0)), (1, .int x1), (2, .int x2), (3, .int x3), (5, .int x5), (6, .int x6), (9, .int x9)]) hx hb dX8_draws_172 hl (k := 8) rfl (by rw [ey2]; rfl) (by decide) rfl (fun ls hl => ?_)
  refine lv_goto (tgt := 97) hx hb dX8_draws_175 (by decide) ?_
  exact hK97 σ x1 x2 x3 x5 x6 y1 x9 y2 _ _ _ hB (lv_sub hl [2, 3, 4, 5, 6, 7, 1, 8, 0] rfl) hf
def bm_draws_97 (n : Nat) (K97 : MS → Int32 → Int32 → Int32 → Int32 → Int32 → Int32 → Int32 → Int32 → Option (Int32 × MS)) (σ : MS) (x1 : Int32) (x2 : Int32) (x3 : Int32) (x5 : Int32) (x6 : Int32) (x8 : Int32) (x9 : Int32) (x10 : Int32) : Option (Int32 × MS) := if (x3 ≤ x10) then (some (x8, σ)) else (sq (((x9 * 1103515245) + 12345) : Int32) (fun y2 => sq ((((y2 &&& 2147483647) / 65536) - ((y2 &&& 2147483647) / 65536) / 9000 * 9000) : Int32) (fun y3 => bd (fm_lastsOf n σ x1 (1 + y3) x2) (fun r4 σ5 => if (x6 = 0) then (if (r4 < x5) then (bm_draws_168 n K97 σ5 x1 x2 x3 x5 x6 y2 x10 x8) else (bm_draws_164 n K97 σ5 x1 x2 x3 x5 x6 y2 x10 x8)) else (if ((σ5.1 0 35) = 2) then (bm_draws_164 n K97 σ5 x1 x2 x3 x5 x6 y2 x10 x8) else (bm_draws_168 n K97 σ5 x1 x2 x3 x5 x6 y2 x10 x8))))))
set_option maxRecDepth 100000 in
set_option maxHeartbeats 4000000 in
theorem tbm_draws_97 {p : Program} {l : Launch} {e : Env} {s : State} {m : MethodId} {args : Array Value} {below : List Frame} {meth : Method} {c : Code} {D : va_G} {A : Nat → Prop} {ad : Nat → Nat} {cy : ClassId} {r0 : Int32} {σ0 : MS} (hc : cxB RX8 wsM cX8_draws 12 (some .int) p s m args meth c) (hK : va_K D vwCl [(cy, .int)] s) (hA : ∀ q, s.heap.size ≤ q → A q) (n : Nat) (K97 : MS → Int32 → Int32 → Int32 → Int32 → Int32 → Int32 → Int32 → Int32 → Option (Int32 × MS)) (hK97 : ∀ (σ : MS) (x1 : Int32) (x2 : Int32) (x3 : Int32) (x5 : Int32) (x6 : Int32) (x8 : Int32) (x9 : Int32) (x10 : Int32) (H : Heap) (locs : List Loc) (ls : Array Slot), mB D ad cy A s.heap σ H locs → lv_has ls 12 [(0, .ref (ad 0)), (1, .int x1), (2, .int x2), (3, .int x3), (5, .int x5), (6, .int x6), (8, .int x8), (9, .int x9), (10, .int x10)] → K97 σ x1 x2 x3 x5 x6 x8 x9 x10 = some (r0, σ0) → W p l e rm_draws s m args below meth c H locs 0 0 (MQ below (mQi D ad cy A r0 σ0) args s 0 0 A) (F0 m 97 ls [])) (σ : MS) (x1 : Int32) (x2 : Int32) (x3 : Int32) (x5 : Int32) (x6 : Int32) (x8 : Int32) (x9 : Int32) (x10 : Int32) {H : Heap} {locs : List Loc} {ls : Array Slot} (hB : mB D ad cy A s.heap σ H locs) (hl : lv_has ls 12 [(0, .ref (ad 0)), (1, .int x1), (2, .int x2), (3, .int x3), (5, .int x5), (6, .int x6), (8, .int x8), (9, .int x9), (10, .int x10)]) (hf : bm_draws_97 n K97 σ x1 x2 x3 x5 x6 x8 x9 x10 = some (r0, σ0)) : W p l e rm_draws s m args below meth c H locs 0 0 (MQ below (mQi D ad cy A r0 σ0) args s 0 0 A) (F0 m 97 ls []) := by
  obtain ⟨hx, hb, hml, hown, hts, hr, hlocks⟩ := id hc
  unfold bm_draws_97 at hf
  refine lv_iload hx hb dX8_draws_97 (lv_at hl 8 rfl) ?_
  refine lv_iload_n hx hb dX8_draws_99 rfl (lv_at hl 3 rfl) ?_
  refine lv_icmp_ge (tgt := 178) hx hb dX8_draws_100 (by decide) (fun c1 => ?_) (fun c1 => ?_)
  · have hf := it_t hf c1
    refine lv_iload hx hb dX8_draws_178 (lv_at hl 6 rfl) ?_
    obtain ⟨rfl, rfl⟩ := so_e hf
    exact rm_iret hx hb hr hlocks hK hB dX8_draws_180
  · have hf := it_f hf c1
    refine lv_iload hx hb dX8_draws_103 (lv_at hl 7 rfl) ?_
    refine lv_ldcw (v := 1103515245) hx hb hown (hts _ qw_213) dX8_draws_105 ?_
    refine lv_imul hx hb dX8_draws_108 ?_
    refine lv_sipush (v := 12345) hx hb dX8_draws_109 (by decide) ?_
    refine lv_iadd hx hb dX8_draws_112 ?_
    refine lv_topi (fun y2 ey2 => ?_)
    have hf := sq_e hf y2 ey2
    refine lv_istore (lv' := [(9, .int y2), (0, .ref (ad 0)), (1, .int x1), (2, .int x2), (3, .int x3), (5, .int x5), (6, .int x6), (8, .int x8), (10, .int x10)]) hx hb dX8_draws_113 hl (by decide) rfl (fun ls hl => ?_)
    refine lv_aload_n hx hb dX8_draws_115 rfl (lv_at hl 1 rfl) ?_
    refine lv_iload_n hx hb dX8_draws_116 rfl (lv_at hl 2 rfl) ?_
    refine lv_iconst (v := 1) hx hb dX8_draws_117 (by decide) ?_
    refine lv_iload hx hb dX8_draws_118 (lv_at hl 0 rfl) ?_
    refine lv_ldcw (v := 2147483647) hx hb hown (hts _ qw_214) dX8_draws_120 ?_
    refine lv_iand hx hb dX8_draws_123 ?_
    refine lv_ldcw (v := 65536) hx hb hown (hts _ qw_215) dX8_draws_124 ?_
    refine lv_idiv hx hb dX8_draws_127 (by decide) ?_
    refine lv_sipush (v := 9000) hx hb dX8_draws_128 (by decide) ?_
    refine lv_irem hx hb dX8_draws_131 (by decide) ?_
    refine lv_topi (fun y3 ey3 => ?_)
    have hf := sq_e hf y3 ey3
    refine lv_iadd hx hb dX8_draws_132 ?_
    refine lv_iload_n hx hb dX8_draws_133 rfl (lv_at hl 3 rfl) ?_
    obtain ⟨r4, σ5, hkr4, hf⟩ := bd_e hf
    refine rm_calliV (av := [.int x1, .int (1 + y3), .int x2]) (rest := []) hx hb hml hown hts hl.1 hK hA hB (cm_lastsOf l D ad cy n σ x1 (1 + y3) x2 hkr4) (kw_lastsOf hts ⟨Nat.le_of_ble_eq_true rfl, Nat.le_of_ble_eq_true rfl⟩) rfl rfl (lv_room (Nat.le_of_ble_eq_true rfl)) dX8_draws_134 (Nat.le_refl _) (Nat.le_refl _) (fun H locs hB => ?_)
    refine lv_istore (lv' := [(11, .int r4), (9, .int y2), (0, .ref (ad 0)), (1, .int x1), (2, .int x2), (3, .int x3), (5, .int x5), (6, .int x6), (8, .int x8), (10, .int x10)]) hx hb dX8_draws_137 hl (by decide) rfl (fun ls hl => ?_)
    refine lv_iload hx hb dX8_draws_139 (lv_at hl 8 rfl) ?_
    refine lv_iload hx hb dX8_draws_141 (lv_at hl 7 rfl) ?_
    refine lv_if_ne (tgt := 156) hx hb dX8_draws_143 (by decide) (fun c6 => ?_) (fun c6 => ?_)
    · have hf := it_f hf c6
      refine lv_aload_n hx hb dX8_draws_156 rfl (lv_at hl 2 rfl) ?_
      refine rm_get hx hb hts inM hown hK hB 35 (Nat.le_of_ble_eq_true rfl) qf_225 rfl dX8_draws_157 ?_
      refine lv_iconst (v := 2) hx hb dX8_draws_160 (by decide) ?_
      refine lv_icmp_ne (tgt := 168) hx hb dX8_draws_161 (by decide) (fun c7 => ?_) (fun c7 => ?_)
      · have hf := it_f hf c7
        exact tbm_draws_168 hc hK hA n K97 hK97 σ5 x1 x2 x3 x5 x6 y2 x10 x8 hB (lv_sub hl [2, 3, 4, 5, 6, 7, 1, 9] rfl) hf
      · have hf := it_t hf c7
        exact tbm_draws_164 hc hK hA n K97 hK97 σ5 x1 x2 x3 x5 x6 y2 x10 x8 hB (lv_sub hl [2, 3, 4, 5, 6, 7, 1, 9] rfl) hf
    · have hf := it_t hf c6
      refine lv_iload hx hb dX8_draws_146 (lv_at hl 0 rfl) ?_
      refine lv_iload hx hb dX8_draws_148 (lv_at hl 6 rfl) ?_
      refine lv_icmp_lt (tgt := 168) hx hb dX8_draws_150 (by decide) (fun c8 => ?_) (fun c8 => ?_)
      · have hf := it_t hf c8
        exact tbm_draws_168 hc hK hA n K97 hK97 σ5 x1 x2 x3 x5 x6 y2 x10 x8 hB (lv_sub hl [2, 3, 4, 5, 6, 7, 1, 9] rfl) hf
      · have hf := it_f hf c8
        refine lv_goto (tgt := 164) hx hb dX8_draws_153 (by decide) ?_
        exact tbm_draws_164 hc hK hA n K97 hK97 σ5 x1 x2 x3 x5 x6 y2 x10 x8 hB (lv_sub hl [2, 3, 4, 5, 6, 7, 1, 9] rfl) hf
def lm_draws_97 (n : Nat) : Nat → MS → Int32 → Int32 → Int32 → Int32 → Int32 → Int32 → Int32 → Int32 → Option (Int32 × MS)
  | 0 => fun _ _ _ _ _ _ _ _ _ => none
  | k + 1 => bm_draws_97 n (lm_draws_97 n k)
theorem tlm_draws_97 {p : Program} {l : Launch} {e : Env} {s : State} {m : MethodId} {args : Array Value} {below : List Frame} {meth : Method} {c : Code} {D : va_G} {A : Nat → Prop} {ad : Nat → Nat} {cy : ClassId} {r0 : Int32} {σ0 : MS} (hc : cxB RX8 wsM cX8_draws 12 (some .int) p s m args meth c) (hK : va_K D vwCl [(cy, .int)] s) (hA : ∀ q, s.heap.size ≤ q → A q) (n : Nat) : ∀ (k : Nat) (σ : MS) (x1 : Int32) (x2 : Int32) (x3 : Int32) (x5 : Int32) (x6 : Int32) (x8 : Int32) (x9 : Int32) (x10 : Int32) (H : Heap) (locs : List Loc) (ls : Array Slot), mB D ad cy A s.heap σ H locs → lv_has ls 12 [(0, .ref (ad 0)), (1, .int x1), (2, .int x2), (3, .int x3), (5, .int x5), (6, .int x6), (8, .int x8), (9, .int x9), (10, .int x10)] → lm_draws_97 n k σ x1 x2 x3 x5 x6 x8 x9 x10 = some (r0, σ0) → W p l e rm_draws s m args below meth c H locs 0 0 (MQ below (mQi D ad cy A r0 σ0) args s 0 0 A) (F0 m 97 ls []) := by
  intro k
  induction k with
  | zero =>
    intro σ x1 x2 x3 x5 x6 x8 x9 x10 H locs ls hB hl hf
    have hf : (none : Option (Int32 × MS)) = some (r0, σ0) := hf
    cases hf
  | succ k ih =>
    intro σ x1 x2 x3 x5 x6 x8 x9 x10 H locs ls hB hl hf
    exact tbm_draws_97 hc hK hA n (lm_draws_97 n k) ih σ x1 x2 x3 x5 x6 x8 x9 x10 hB hl hf
def bm_draws_73 (n : Nat) (σ : MS) (x1 : Int32) (x2 : Int32) (x3 : Int32) (x4 : Int32) (x5 : Int32) (x6 : Int32) (t0 : Int32) : Option (Int32 × MS) := if (t0 = 0) then (sq (0 : Int32) (fun y2 => sq (0 : Int32) (fun y3 => lm_draws_97 n n σ x1 x2 x3 x5 x6 y2 x4 y3))) else (bd (fm_no n σ t0) (fun r4 σ5 => some (r4, σ5)))
set_option maxRecDepth 100000 in
set_option maxHeartbeats 4000000 in
theorem tbm_draws_73 {p : Program} {l : Launch} {e : Env} {s : State} {m : MethodId} {args : Array Value} {below : List Frame} {meth : Method} {c : Code} {D : va_G} {A : Nat → Prop} {ad : Nat → Nat} {cy : ClassId} {r0 : Int32} {σ0 : MS} (hc : cxB RX8 wsM cX8_draws 12 (some .int) p s m args meth c) (hK : va_K D vwCl [(cy, .int)] s) (hA : ∀ q, s.heap.size ≤ q → A q) (n : Nat) (σ : MS) (x1 : Int32) (x2 : Int32) (x3 : Int32) (x4 : Int32) (x5 : Int32) (x6 : Int32) (t0 : Int32) {H : Heap} {locs : List Loc} {ls : Array Slot} (hB : mB D ad cy A s.heap σ H locs) (hl : lv_has ls 12 [(0, .ref (ad 0)), (1, .int x1), (2, .int x2), (3, .int x3), (4, .int x4), (5, .int x5), (6, .int x6)]) (hf : bm_draws_73 n σ x1 x2 x3 x4 x5 x6 t0 = some (r0, σ0)) : W p l e rm_draws s m args below meth c H locs 0 0 (MQ below (mQi D ad cy A r0 σ0) args s 0 0 A) (F0 m 73 ls [.int t0]) := by
  obtain ⟨hx, hb, hml, hown, hts, hr, hlocks⟩ := id hc
  unfold bm_draws_73 at hf
  refine lv_istore (lv' := [(7, .int t0), (0, .ref (ad 0)), (1, .int x1), (2, .int x2), (3, .int x3), (4, .int x4), (5, .int x5), (6, .int x6)]) hx hb dX8_draws_73 hl (by decide) rfl (fun ls hl => ?_)
  refine lv_iload hx hb dX8_draws_75 (lv_at hl 0 rfl) ?_
  refine lv_if_eq (tgt := 87) hx hb dX8_draws_77 (by decide) (fun c1 => ?_) (fun c1 => ?_)
  · have hf := it_t hf c1
    refine lv_iconst (v := 0) hx hb dX8_draws_87 (by decide) ?_
    refine lv_topi (fun y2 ey2 => ?_)
    have hf := sq_e hf y2 ey2
    refine lv_istore (lv' := [(8, .int y2), (7, .int t0), (0, .ref (ad 0)), (1, .int x1), (2, .int x2), (3, .int x3), (4, .int x4), (5, .int x5), (6, .int x6)]) hx hb dX8_draws_88 hl (by decide) rfl (fun ls hl => ?_)
    refine lv_iload hx hb dX8_draws_90 (lv_at hl 6 rfl) ?_
    refine lv_istore (lv' := [(9, .int x4), (8, .int y2), (7, .int t0), (0, .ref (ad 0)), (1, .int x1), (2, .int x2), (3, .int x3), (4, .int x4), (5, .int x5), (6, .int x6)]) hx hb dX8_draws_92 hl (by decide) rfl (fun ls hl => ?_)
    refine lv_iconst (v := 0) hx hb dX8_draws_94 (by decide) ?_
    refine lv_topi (fun y3 ey3 => ?_)
    have hf := sq_e hf y3 ey3
    refine lv_istore (lv' := [(10, .int y3), (9, .int x4), (8, .int y2), (7, .int t0), (0, .ref (ad 0)), (1, .int x1), (2, .int x2), (3, .int x3), (4, .int x4), (5, .int x5), (6, .int x6)]) hx hb dX8_draws_95 hl (by decide) rfl (fun ls hl => ?_)
    exact tlm_draws_97 hc hK hA n n σ x1 x2 x3 x5 x6 y2 x4 y3 _ _ _ hB (lv_sub hl [4, 5, 6, 7, 9, 10, 2, 1, 0] rfl) hf
  · have hf := it_f hf c1
    refine lv_aload_n hx hb dX8_draws_80 rfl (lv_at hl 1 rfl) ?_
    refine lv_iload hx hb dX8_draws_81 (lv_at hl 0 rfl) ?_
    obtain ⟨r4, σ5, hkr4, hf⟩ := bd_e hf
    refine rm_calliV (av := [.int t0]) (rest := []) hx hb hml hown hts hl.1 hK hA hB (cm_no l D ad cy n σ t0 hkr4) (kw_no hts ⟨Nat.le_of_ble_eq_true rfl, Nat.le_of_ble_eq_true rfl⟩) rfl rfl (lv_room (Nat.le_of_ble_eq_true rfl)) dX8_draws_83 (Nat.le_refl _) (Nat.le_refl _) (fun H locs hB => ?_)
    obtain ⟨rfl, rfl⟩ := so_e hf
    exact rm_iret hx hb hr hlocks hK hB dX8_draws_86
def bm_draws_48 (n : Nat) (σ : MS) (x1 : Int32) (x2 : Int32) (x3 : Int32) (x4 : Int32) (x5 : Int32) (x6 : Int32) : Option (Int32 × MS) := bm_draws_73 n σ x1 x2 x3 x4 x5 x6 (-4)
set_option maxRecDepth 100000 in
set_option maxHeartbeats 4000000 in
theorem tbm_draws_48 {p : Program} {l : Launch} {e : Env} {s : State} {m : MethodId} {args : Array Value} {below : List Frame} {meth : Method} {c : Code} {D : va_G} {A : Nat → Prop} {ad : Nat → Nat} {cy : ClassId} {r0 : Int32} {σ0 : MS} (hc : cxB RX8 wsM cX8_draws 12 (some .int) p s m args meth c) (hK : va_K D vwCl [(cy, .int)] s) (hA : ∀ q, s.heap.size ≤ q → A q) (n : Nat) (σ : MS) (x1 : Int32) (x2 : Int32) (x3 : Int32) (x4 : Int32) (x5 : Int32) (x6 : Int32) {H : Heap} {locs : List Loc} {ls : Array Slot} (hB : mB D ad cy A s.heap σ H locs) (hl : lv_has ls 12 [(0, .ref (ad 0)), (1, .int x1), (2, .int x2), (3, .int x3), (4, .int x4), (5, .int x5), (6, .int x6)]) (hf : bm_draws_48 n σ x1 x2 x3 x4 x5 x6 = some (r0, σ0)) : W p l e rm_draws s m args below meth c H locs 0 0 (MQ below (mQi D ad cy A r0 σ0) args s 0 0 A) (F0 m 48 ls []) := by
  obtain ⟨hx, hb, hml, hown, hts, hr, hlocks⟩ := id hc
  unfold bm_draws_48 at hf
  refine lv_bipush (v := (-4)) hx hb dX8_draws_48 (by decide) ?_
  refine lv_goto (tgt := 73) hx hb dX8_draws_50 (by decide) ?_
  exact tbm_draws_73 hc hK hA n σ x1 x2 x3 x4 x5 x6 (-4) hB (lv_sub hl [0, 1, 2, 3, 4, 5, 6] rfl) hf
def bm_draws_67 (n : Nat) (σ : MS) (x1 : Int32) (x2 : Int32) (x3 : Int32) (x4 : Int32) (x5 : Int32) (x6 : Int32) : Option (Int32 × MS) := bm_draws_73 n σ x1 x2 x3 x4 x5 x6 (-6)
set_option maxRecDepth 100000 in
set_option maxHeartbeats 4000000 in
theorem tbm_draws_67 {p : Program} {l : Launch} {e : Env} {s : State} {m : MethodId} {args : Array Value} {below : List Frame} {meth : Method} {c : Code} {D : va_G} {A : Nat → Prop} {ad : Nat → Nat} {cy : ClassId} {r0 : Int32} {σ0 : MS} (hc : cxB RX8 wsM cX8_draws 12 (some .int) p s m args meth c) (hK : va_K D vwCl [(cy, .int)] s) (hA : ∀ q, s.heap.size ≤ q → A q) (n : Nat) (σ : MS) (x1 : Int32) (x2 : Int32) (x3 : Int32) (x4 : Int32) (x5 : Int32) (x6 : Int32) {H : Heap} {locs : List Loc} {ls : Array Slot} (hB : mB D ad cy A s.heap σ H locs) (hl : lv_has ls 12 [(0, .ref (ad 0)), (1, .int x1), (2, .int x2), (3, .int x3), (4, .int x4), (5, .int x5), (6, .int x6)]) (hf : bm_draws_67 n σ x1 x2 x3 x4 x5 x6 = some (r0, σ0)) : W p l e rm_draws s m args below meth c H locs 0 0 (MQ below (mQi D ad cy A r0 σ0) args s 0 0 A) (F0 m 67 ls []) := by
  obtain ⟨hx, hb, hml, hown, hts, hr, hlocks⟩ := id hc
  unfold bm_draws_67 at hf
  refine lv_bipush (v := (-6)) hx hb dX8_draws_67 (by decide) ?_
  refine lv_goto (tgt := 73) hx hb dX8_draws_69 (by decide) ?_
  exact tbm_draws_73 hc hK hA n σ x1 x2 x3 x4 x5 x6 (-6) hB (lv_sub hl [0, 1, 2, 3, 4, 5, 6] rfl) hf
def fm_draws (n : Nat) (σ : MS) (x1 : Int32) (x2 : Int32) (x3 : Int32) (x4 : Int32) (x5 : Int32) (x6 : Int32) : Option (Int32 × MS) := bd (fm_isPlate n σ x1) (fun r1 σ2 => if (r1 = 0) then (bd (fm_no n σ2 (-1)) (fun r4 σ5 => some (r4, σ5))) else (bd (fm_isFloor n σ2 x2) (fun r6 σ7 => if (r6 = 0) then (bd (fm_no n σ7 (-1)) (fun r18 σ19 => some (r18, σ19))) else (bd (fm_isIn n σ7 x6 0 1) (fun r9 σ10 => if (r9 = 0) then (bd (fm_no n σ10 (-2)) (fun r16 σ17 => some (r16, σ17))) else (if (x3 < 1) then (bm_draws_48 n σ10 x1 x2 x3 x4 x5 x6) else (if (0 ≤ x5) then (if (30 < x3) then (bm_draws_67 n σ10 x1 x2 x3 x4 x5 x6) else (if (x5 ≤ 9999) then (bm_draws_73 n σ10 x1 x2 x3 x4 x5 x6 0) else (bm_draws_67 n σ10 x1 x2 x3 x4 x5 x6))) else (bm_draws_48 n σ10 x1 x2 x3 x4 x5 x6))))))))
set_option maxRecDepth 100000 in
set_option maxHeartbeats 4000000 in
theorem tbm_draws_0 {p : Program} {l : Launch} {e : Env} {s : State} {m : MethodId} {args : Array Value} {below : List Frame} {meth : Method} {c : Code} {D : va_G} {A : Nat → Prop} {ad : Nat → Nat} {cy : ClassId} {r0 : Int32} {σ0 : MS} (hc : cxB RX8 wsM cX8_draws 12 (some .int) p s m args meth c) (hK : va_K D vwCl [(cy, .int)] s) (hA : ∀ q, s.heap.size ≤ q → A q) (n : Nat) (σ : MS) (x1 : Int32) (x2 : Int32) (x3 : Int32) (x4 : Int32) (x5 : Int32) (x6 : Int32) {H : Heap} {locs : List Loc} {ls : Array Slot} (hB : mB D ad cy A s.heap σ H locs) (hl : lv_has ls 12 [(0, .ref (ad 0)), (1, .int x1), (2, .int x2), (3, .int x3), (4, .int x4), (5, .int x5), (6, .int x6)]) (hf : fm_draws n σ x1 x2 x3 x4 x5 x6 = some (r0, σ0)) : W p l e rm_draws s m args below meth c H locs 0 0 (MQ below (mQi D ad cy A r0 σ0) args s 0 0 A) (F0 m 0 ls []) := by
  obtain ⟨hx, hb, hml, hown, hts, hr, hlocks⟩ := id hc
  unfold fm_draws at hf
  refine lv_aload_n hx hb dX8_draws_0 rfl (lv_at hl 0 rfl) ?_
  refine lv_iload_n hx hb dX8_draws_1 rfl (lv_at hl 1 rfl) ?_
  obtain ⟨r1, σ2, hkr1, hf⟩ := bd_e hf
  refine rm_calliV (av := [.int x1]) (rest := []) hx hb hml hown hts hl.1 hK hA hB (cm_isPlate l D ad cy n σ x1 hkr1) (kw_isPlate hts ⟨Nat.le_of_ble_eq_true rfl, Nat.le_of_ble_eq_true rfl⟩) rfl rfl (lv_room (Nat.le_of_ble_eq_true rfl)) dX8_draws_2 (Nat.le_refl _) (Nat.le_refl _) (fun H locs hB => ?_)
  refine lv_if_eq (tgt := 15) hx hb dX8_draws_5 (by decide) (fun c3 => ?_) (fun c3 => ?_)
  · have hf := it_t hf c3
    refine lv_aload_n hx hb dX8_draws_15 rfl (lv_at hl 0 rfl) ?_
    refine lv_iconst (v := (-1)) hx hb dX8_draws_16 (by decide) ?_
    obtain ⟨r4, σ5, hkr4, hf⟩ := bd_e hf
    refine rm_calliV (av := [.int (-1)]) (rest := []) hx hb hml hown hts hl.1 hK hA hB (cm_no l D ad cy n σ2 (-1) hkr4) (kw_no hts ⟨Nat.le_of_ble_eq_true rfl, Nat.le_of_ble_eq_true rfl⟩) rfl rfl (lv_room (Nat.le_of_ble_eq_true rfl)) dX8_draws_17 (Nat.le_refl _) (Nat.le_refl _) (fun H locs hB => ?_)
    obtain ⟨rfl, rfl⟩ := so_e hf
    exact rm_iret hx hb hr hlocks hK hB dX8_draws_20
  · have hf := it_f hf c3
    refine lv_iload_n hx hb dX8_draws_8 rfl (lv_at hl 2 rfl) ?_
    obtain ⟨r6, σ7, hkr6, hf⟩ := bd_e hf
    refine rm_calliS (av := [.int x2]) (rest := []) hx hb hml hown hts hl.1 hK hA hB (cm_isFloor l D ad cy n σ2 x2 hkr6) (kw_isFloor hts ⟨Nat.le_of_ble_eq_true rfl, Nat.le_of_ble_eq_true rfl⟩) rfl rfl (lv_room (Nat.le_of_ble_eq_true rfl)) dX8_draws_9 (Nat.le_refl _) (Nat.le_refl _) (fun H locs hB => ?_)
    refine lv_if_ne (tgt := 21) hx hb dX8_draws_12 (by decide) (fun c8 => ?_) (fun c8 => ?_)
    · have hf := it_f hf c8
      refine lv_iload hx hb dX8_draws_21 (lv_at hl 6 rfl) ?_
      refine lv_iconst (v := 0) hx hb dX8_draws_23 (by decide) ?_
      refine lv_iconst (v := 1) hx hb dX8_draws_24 (by decide) ?_
      obtain ⟨r9, σ10, hkr9, hf⟩ := bd_e hf
      refine rm_calliS (av := [.int x6, .int 0, .int 1]) (rest := []) hx hb hml hown hts hl.1 hK hA hB (cm_isIn l D ad cy n σ7 x6 0 1 hkr9) (kw_isIn hts ⟨Nat.le_of_ble_eq_true rfl, Nat.le_of_ble_eq_true rfl⟩) rfl rfl (lv_room (Nat.le_of_ble_eq_true rfl)) dX8_draws_25 (Nat.le_refl _) (Nat.le_refl _) (fun H locs hB => ?_)
      refine lv_if_ne (tgt := 38) hx hb dX8_draws_28 (by decide) (fun c11 => ?_) (fun c11 => ?_)
      · have hf := it_f hf c11
        refine lv_iload_n hx hb dX8_draws_38 rfl (lv_at hl 3 rfl) ?_
        refine lv_iconst (v := 1) hx hb dX8_draws_39 (by decide) ?_
        refine lv_icmp_lt (tgt := 48) hx hb dX8_draws_40 (by decide) (fun c12 => ?_) (fun c12 => ?_)
        · have hf := it_t hf c12
          exact tbm_draws_48 hc hK hA n σ10 x1 x2 x3 x4 x5 x6 hB (lv_sub hl [0, 1, 2, 3, 4, 5, 6] rfl) hf
        · have hf := it_f hf c12
          refine lv_iload hx hb dX8_draws_43 (lv_at hl 5 rfl) ?_
          refine lv_if_ge (tgt := 53) hx hb dX8_draws_45 (by decide) (fun c13 => ?_) (fun c13 => ?_)
          · have hf := it_t hf c13
            refine lv_iload_n hx hb dX8_draws_53 rfl (lv_at hl 3 rfl) ?_
            refine lv_bipush (v := 30) hx hb dX8_draws_54 (by decide) ?_
            refine lv_icmp_gt (tgt := 67) hx hb dX8_draws_56 (by decide) (fun c14 => ?_) (fun c14 => ?_)
            · have hf := it_t hf c14
              exact tbm_draws_67 hc hK hA n σ10 x1 x2 x3 x4 x5 x6 hB (lv_sub hl [0, 1, 2, 3, 4, 5, 6] rfl) hf
            · have hf := it_f hf c14
              refine lv_iload hx hb dX8_draws_59 (lv_at hl 5 rfl) ?_
              refine lv_sipush (v := 9999) hx hb dX8_draws_61 (by decide) ?_
              refine lv_icmp_le (tgt := 72) hx hb dX8_draws_64 (by decide) (fun c15 => ?_) (fun c15 => ?_)
              · have hf := it_t hf c15
                refine lv_iconst (v := 0) hx hb dX8_draws_72 (by decide) ?_
                exact tbm_draws_73 hc hK hA n σ10 x1 x2 x3 x4 x5 x6 0 hB (lv_sub hl [0, 1, 2, 3, 4, 5, 6] rfl) hf
              · have hf := it_f hf c15
                exact tbm_draws_67 hc hK hA n σ10 x1 x2 x3 x4 x5 x6 hB (lv_sub hl [0, 1, 2, 3, 4, 5, 6] rfl) hf
          · have hf := it_f hf c13
            exact tbm_draws_48 hc hK hA n σ10 x1 x2 x3 x4 x5 x6 hB (lv_sub hl [0, 1, 2, 3, 4, 5, 6] rfl) hf
      · have hf := it_t hf c11
        refine lv_aload_n hx hb dX8_draws_31 rfl (lv_at hl 0 rfl) ?_
        refine lv_bipush (v := (-2)) hx hb dX8_draws_32 (by decide) ?_
        obtain ⟨r16, σ17, hkr16, hf⟩ := bd_e hf
        refine rm_calliV (av := [.int (-2)]) (rest := []) hx hb hml hown hts hl.1 hK hA hB (cm_no l D ad cy n σ10 (-2) hkr16) (kw_no hts ⟨Nat.le_of_ble_eq_true rfl, Nat.le_of_ble_eq_true rfl⟩) rfl rfl (lv_room (Nat.le_of_ble_eq_true rfl)) dX8_draws_34 (Nat.le_refl _) (Nat.le_refl _) (fun H locs hB => ?_)
        obtain ⟨rfl, rfl⟩ := so_e hf
        exact rm_iret hx hb hr hlocks hK hB dX8_draws_37
    · have hf := it_t hf c8
      refine lv_aload_n hx hb dX8_draws_15 rfl (lv_at hl 0 rfl) ?_
      refine lv_iconst (v := (-1)) hx hb dX8_draws_16 (by decide) ?_
      obtain ⟨r18, σ19, hkr18, hf⟩ := bd_e hf
      refine rm_calliV (av := [.int (-1)]) (rest := []) hx hb hml hown hts hl.1 hK hA hB (cm_no l D ad cy n σ7 (-1) hkr18) (kw_no hts ⟨Nat.le_of_ble_eq_true rfl, Nat.le_of_ble_eq_true rfl⟩) rfl rfl (lv_room (Nat.le_of_ble_eq_true rfl)) dX8_draws_17 (Nat.le_refl _) (Nat.le_refl _) (fun H locs hB => ?_)
      obtain ⟨rfl, rfl⟩ := so_e hf
      exact rm_iret hx hb hr hlocks hK hB dX8_draws_20
theorem cm_draws (l : Launch) (D : va_G) (ad : Nat → Nat) (cy : ClassId) (n : Nat) (σ : MS) (x1 : Int32) (x2 : Int32) (x3 : Int32) (x4 : Int32) (x5 : Int32) (x6 : Int32) {r0 : Int32} {σ0 : MS} (hf : fm_draws n σ x1 x2 x3 x4 x5 x6 = some (r0, σ0)) : mMi l yX8_draws wn_draws rm_draws D ad cy [.ref (ad 0), .int x1, .int x2, .int x3, .int x4, .int x5, .int x6] σ r0 σ0 :=
  rm_meti (ret := (some .int)) (by decide) rfl (Nat.le_of_ble_eq_true rfl) (fun p e s m below meth c A ls hc hK hA hB hl => tbm_draws_0 hc hK hA n σ x1 x2 x3 x4 x5 x6 hB hl hf)
/-! turns -/
abbrev rm_turns : Room := { frames := 0, cells := 0, slots := 0, locals := 0 }
abbrev wn_turns : List Cond := .code yX8_turns cX8_turns 3 none :: wsM
def bm_turns_42 (n : Nat) (K2 : MS → Nat → Int32 → Option (Int32 × MS)) (σ : MS) (x1 : Nat) (x2 : Int32) : Option (Int32 × MS) := sq (mp σ 0 56 ((σ.1 0 56) + 1)) (fun σ1 => sq (x2 + 1 : Int32) (fun y2 => K2 σ1 x1 y2))
set_option maxRecDepth 100000 in
set_option maxHeartbeats 4000000 in
theorem tbm_turns_42 {p : Program} {l : Launch} {e : Env} {s : State} {m : MethodId} {args : Array Value} {below : List Frame} {meth : Method} {c : Code} {D : va_G} {A : Nat → Prop} {ad : Nat → Nat} {cy : ClassId} {r0 : Int32} {σ0 : MS} (hc : cxB RX8 wsM cX8_turns 3 none p s m args meth c) (hK : va_K D vwCl [(cy, .int)] s) (hA : ∀ q, s.heap.size ≤ q → A q) (n : Nat) (K2 : MS → Nat → Int32 → Option (Int32 × MS)) (hK2 : ∀ (σ : MS) (x1 : Nat) (x2 : Int32) (H : Heap) (locs : List Loc) (ls : Array Slot), mB D ad cy A s.heap σ H locs → lv_has ls 3 [(0, .ref (ad 0)), (1, .ref (ad x1)), (2, .int x2)] → K2 σ x1 x2 = some (r0, σ0) → W p l e rm_turns s m args below meth c H locs 0 0 (MQ below (mQv D ad cy A σ0) args s 0 0 A) (F0 m 2 ls [])) (σ : MS) (x1 : Nat) (x2 : Int32) {H : Heap} {locs : List Loc} {ls : Array Slot} (hB : mB D ad cy A s.heap σ H locs) (hl : lv_has ls 3 [(0, .ref (ad 0)), (1, .ref (ad x1)), (2, .int x2)]) (hf : bm_turns_42 n K2 σ x1 x2 = some (r0, σ0)) : W p l e rm_turns s m args below meth c H locs 0 0 (MQ below (mQv D ad cy A σ0) args s 0 0 A) (F0 m 42 ls []) := by
  obtain ⟨hx, hb, hml, hown, hts, hr, hlocks⟩ := id hc
  unfold bm_turns_42 at hf
  refine lv_aload_n hx hb dX8_turns_42 rfl (lv_at hl 0 rfl) ?_
  refine lv_dup hx hb dX8_turns_43 rfl ?_
  refine rm_get hx hb hts inM hown hK hB 56 (Nat.le_of_ble_eq_true rfl) qf_316 rfl dX8_turns_44 ?_
  refine lv_iconst (v := 1) hx hb dX8_turns_47 (by decide) ?_
  refine lv_iadd hx hb dX8_turns_48 ?_
  refine rm_puti hx hb hts inM hown hK hB 56 (Nat.le_of_ble_eq_true rfl) qf_316 (ms_56 _ _ _) rfl pd_56 rfl rfl dX8_turns_49 (fun σ1 eσ1 H locs hB => ?_)
  have hf := sq_e hf σ1 eσ1
  obtain ⟨y2, ey2⟩ : ∃ z : Int32, z = x2 + 1 := ⟨_, rfl⟩
  have hf := sq_e hf y2 ey2
  refine lv_iinc (v := y2) (lv' := [(2, .int y2), (0, .ref (ad 0)), (1, .ref (ad x1))]) hx hb dX8_turns_52 hl (k := 2) rfl (by rw [ey2]; rfl) (by decide) rfl (fun ls hl => ?_)
  refine lv_goto (tgt := 2) hx hb dX8_turns_55 (by decide) ?_
  exact hK2 σ1 x1 y2 _ _ _ hB (lv_sub hl [1, 2, 0] rfl) hf
def bm_turns_2 (n : Nat) (K2 : MS → Nat → Int32 → Option (Int32 × MS)) (σ : MS) (x1 : Nat) (x2 : Int32) : Option (Int32 × MS) := ck (mok x1) (if ((Int32.ofNat (mlen x1)) ≤ x2) then (some (0, σ)) else (if ((σ.1 0 55) = 0) then (ck (ib (σ.1 0 56) 800) (sq ((σ.1 24 (Int32.toNatClampNeg (σ.1 0 56))) : Int32) (fun y5 => ck (mok x1) (ck (ib x2 (mlen x1)) (sq (mp σ x1 (Int32.toNatClampNeg x2) y5) (fun σ8 => bm_turns_42 n K2 σ8 x1 x2)))))) else (ck (mok x1) (ck (ib x2 (mlen x1)) (sq ((σ.1 x1 (Int32.toNatClampNeg x2)) : Int32) (fun y11 => ck (ib (σ.1 0 56) 800) (sq (mp σ 24 (Int32.toNatClampNeg (σ.1 0 56)) y11) (fun σ13 => bm_turns_42 n K2 σ13 x1 x2))))))))
set_option maxRecDepth 100000 in
set_option maxHeartbeats 4000000 in
theorem tbm_turns_2 {p : Program} {l : Launch} {e : Env} {s : State} {m : MethodId} {args : Array Value} {below : List Frame} {meth : Method} {c : Code} {D : va_G} {A : Nat → Prop} {ad : Nat → Nat} {cy : ClassId} {r0 : Int32} {σ0 : MS} (hc : cxB RX8 wsM cX8_turns 3 none p s m args meth c) (hK : va_K D vwCl [(cy, .int)] s) (hA : ∀ q, s.heap.size ≤ q → A q) (n : Nat) (K2 : MS → Nat → Int32 → Option (Int32 × MS)) (hK2 : ∀ (σ : MS) (x1 : Nat) (x2 : Int32) (H : Heap) (locs : List Loc) (ls : Array Slot), mB D ad cy A s.heap σ H locs → lv_has ls 3 [(0, .ref (ad 0)), (1, .ref (ad x1)), (2, .int x2)] → K2 σ x1 x2 = some (r0, σ0) → W p l e rm_turns s m args below meth c H locs 0 0 (MQ below (mQv D ad cy A σ0) args s 0 0 A) (F0 m 2 ls [])) (σ : MS) (x1 : Nat) (x2 : Int32) {H : Heap} {locs : List Loc} {ls : Array Slot} (hB : mB D ad cy A s.heap σ H locs) (hl : lv_has ls 3 [(0, .ref (ad 0)), (1, .ref (ad x1)), (2, .int x2)]) (hf : bm_turns_2 n K2 σ x1 x2 = some (r0, σ0)) : W p l e rm_turns s m args below meth c H locs 0 0 (MQ below (mQv D ad cy A σ0) args s 0 0 A) (F0 m 2 ls []) := by
  obtain ⟨hx, hb, hml, hown, hts, hr, hlocks⟩ := id hc
  unfold bm_turns_2 at hf
  refine lv_iload_n hx hb dX8_turns_2 rfl (lv_at hl 2 rfl) ?_
  refine lv_aload_n hx hb dX8_turns_3 rfl (lv_at hl 1 rfl) ?_
  obtain ⟨k1, hf⟩ := ck_e hf
  refine rm_alen hx hb hK hB x1 (mw_dyn k1) rfl dX8_turns_4 ?_
  refine lv_icmp_ge (tgt := 58) hx hb dX8_turns_5 (by decide) (fun c2 => ?_) (fun c2 => ?_)
  · have hf := it_t hf c2
    obtain ⟨rfl, rfl⟩ := so_e hf
    exact rm_vret hx hb hr hlocks hK hB dX8_turns_58
  · have hf := it_f hf c2
    refine lv_aload_n hx hb dX8_turns_8 rfl (lv_at hl 0 rfl) ?_
    refine rm_get hx hb hts inM hown hK hB 55 (Nat.le_of_ble_eq_true rfl) qf_313 rfl dX8_turns_9 ?_
    refine lv_if_eq (tgt := 30) hx hb dX8_turns_12 (by decide) (fun c3 => ?_) (fun c3 => ?_)
    · have hf := it_t hf c3
      refine lv_aload_n hx hb dX8_turns_30 rfl (lv_at hl 1 rfl) ?_
      refine lv_iload_n hx hb dX8_turns_31 rfl (lv_at hl 2 rfl) ?_
      refine lv_aload_n hx hb dX8_turns_32 rfl (lv_at hl 0 rfl) ?_
      refine rm_get hx hb hts inM hown hK hB 53 (Nat.le_of_ble_eq_true rfl) qf_83 rfl dX8_turns_33 ?_
      refine lv_aload_n hx hb dX8_turns_36 rfl (lv_at hl 0 rfl) ?_
      refine rm_get hx hb hts inM hown hK hB 56 (Nat.le_of_ble_eq_true rfl) qf_316 rfl dX8_turns_37 ?_
      obtain ⟨k4, hf⟩ := ck_e hf
      refine rm_ald hx hb hK hB 24 rfl k4 dX8_turns_40 ?_
      refine lv_topi (fun y5 ey5 => ?_)
      have hf := sq_e hf y5 ey5
      obtain ⟨k6, hf⟩ := ck_e hf
      obtain ⟨k7, hf⟩ := ck_e hf
      refine rm_ast hx hb hK hB x1 (mw_dyn k6) (msa_dyn k6) k7 dX8_turns_41 (fun σ8 eσ8 H locs hB => ?_)
      have hf := sq_e hf σ8 eσ8
      exact tbm_turns_42 hc hK hA n K2 hK2 σ8 x1 x2 hB (lv_sub hl [0, 1, 2] rfl) hf
    · have hf := it_f hf c3
      refine lv_aload_n hx hb dX8_turns_15 rfl (lv_at hl 0 rfl) ?_
      refine rm_get hx hb hts inM hown hK hB 53 (Nat.le_of_ble_eq_true rfl) qf_83 rfl dX8_turns_16 ?_
      refine lv_aload_n hx hb dX8_turns_19 rfl (lv_at hl 0 rfl) ?_
      refine rm_get hx hb hts inM hown hK hB 56 (Nat.le_of_ble_eq_true rfl) qf_316 rfl dX8_turns_20 ?_
      refine lv_aload_n hx hb dX8_turns_23 rfl (lv_at hl 1 rfl) ?_
      refine lv_iload_n hx hb dX8_turns_24 rfl (lv_at hl 2 rfl) ?_
      obtain ⟨k9, hf⟩ := ck_e hf
      obtain ⟨k10, hf⟩ := ck_e hf
      refine rm_ald hx hb hK hB x1 (mw_dyn k9) k10 dX8_turns_25 ?_
      refine lv_topi (fun y11 ey11 => ?_)
      have hf := sq_e hf y11 ey11
      obtain ⟨k12, hf⟩ := ck_e hf
      refine rm_ast hx hb hK hB 24 rfl (msa_24 _ _ _) k12 dX8_turns_26 (fun σ13 eσ13 H locs hB => ?_)
      have hf := sq_e hf σ13 eσ13
      refine lv_goto (tgt := 42) hx hb dX8_turns_27 (by decide) ?_
      exact tbm_turns_42 hc hK hA n K2 hK2 σ13 x1 x2 hB (lv_sub hl [0, 1, 2] rfl) hf
def lm_turns_2 (n : Nat) : Nat → MS → Nat → Int32 → Option (Int32 × MS)
  | 0 => fun _ _ _ => none
  | k + 1 => bm_turns_2 n (lm_turns_2 n k)
theorem tlm_turns_2 {p : Program} {l : Launch} {e : Env} {s : State} {m : MethodId} {args : Array Value} {below : List Frame} {meth : Method} {c : Code} {D : va_G} {A : Nat → Prop} {ad : Nat → Nat} {cy : ClassId} {r0 : Int32} {σ0 : MS} (hc : cxB RX8 wsM cX8_turns 3 none p s m args meth c) (hK : va_K D vwCl [(cy, .int)] s) (hA : ∀ q, s.heap.size ≤ q → A q) (n : Nat) : ∀ (k : Nat) (σ : MS) (x1 : Nat) (x2 : Int32) (H : Heap) (locs : List Loc) (ls : Array Slot), mB D ad cy A s.heap σ H locs → lv_has ls 3 [(0, .ref (ad 0)), (1, .ref (ad x1)), (2, .int x2)] → lm_turns_2 n k σ x1 x2 = some (r0, σ0) → W p l e rm_turns s m args below meth c H locs 0 0 (MQ below (mQv D ad cy A σ0) args s 0 0 A) (F0 m 2 ls []) := by
  intro k
  induction k with
  | zero =>
    intro σ x1 x2 H locs ls hB hl hf
    have hf : (none : Option (Int32 × MS)) = some (r0, σ0) := hf
    cases hf
  | succ k ih =>
    intro σ x1 x2 H locs ls hB hl hf
    exact tbm_turns_2 hc hK hA n (lm_turns_2 n k) ih σ x1 x2 hB hl hf
def fm_turns (n : Nat) (σ : MS) (x1 : Nat) : Option (Int32 × MS) := sq (0 : Int32) (fun y1 => lm_turns_2 n n σ x1 y1)
set_option maxRecDepth 100000 in
set_option maxHeartbeats 4000000 in
theorem tbm_turns_0 {p : Program} {l : Launch} {e : Env} {s : State} {m : MethodId} {args : Array Value} {below : List Frame} {meth : Method} {c : Code} {D : va_G} {A : Nat → Prop} {ad : Nat → Nat} {cy : ClassId} {r0 : Int32} {σ0 : MS} (hc : cxB RX8 wsM cX8_turns 3 none p s m args meth c) (hK : va_K D vwCl [(cy, .int)] s) (hA : ∀ q, s.heap.size ≤ q → A q) (n : Nat) (σ : MS) (x1 : Nat) {H : Heap} {locs : List Loc} {ls : Array Slot} (hB : mB D ad cy A s.heap σ H locs) (hl : lv_has ls 3 [(0, .ref (ad 0)), (1, .ref (ad x1))]) (hf : fm_turns n σ x1 = some (r0, σ0)) : W p l e rm_turns s m args below meth c H locs 0 0 (MQ below (mQv D ad cy A σ0) args s 0 0 A) (F0 m 0 ls []) := by
  obtain ⟨hx, hb, hml, hown, hts, hr, hlocks⟩ := id hc
  unfold fm_turns at hf
  refine lv_iconst (v := 0) hx hb dX8_turns_0 (by decide) ?_
  refine lv_topi (fun y1 ey1 => ?_)
  have hf := sq_e hf y1 ey1
  refine lv_istore_n (lv' := [(2, .int y1), (0, .ref (ad 0)), (1, .ref (ad x1))]) hx hb dX8_turns_1 rfl hl (by decide) rfl (fun ls hl => ?_)
  exact tlm_turns_2 hc hK hA n n σ x1 y1 _ _ _ hB (lv_sub hl [1, 2, 0] rfl) hf
theorem cm_turns (l : Launch) (D : va_G) (ad : Nat → Nat) (cy : ClassId) (n : Nat) (σ : MS) (x1 : Nat) {r0 : Int32} {σ0 : MS} (hf : fm_turns n σ x1 = some (r0, σ0)) : mMv l yX8_turns wn_turns rm_turns D ad cy [.ref (ad 0), .ref (ad x1)] σ σ0 :=
  rm_metv (ret := none) (by decide) rfl (Nat.le_of_ble_eq_true rfl) (fun p e s m below meth c A ls hc hK hA hB hl => tbm_turns_0 hc hK hA n σ x1 hB hl hf)
theorem kw_turns {R : Room} {s : State} {args : Array Value} (hts : ∀ w ∈ wsM, w.before args s = true) (hR : rm_turns.frames + 1 ≤ R.frames ∧ 8 + (3 + 11) + rm_turns.locals ≤ R.locals) : CallW R s args RX8 RX8 319 yX8_turns cX8_turns 3 none wn_turns rm_turns 0 0 1 := cwV 1 hts (gM_v qw_220 qw_221 qw_222 qw_37 qw_216) rfl rfl rfl (by decide +kernel) hR
