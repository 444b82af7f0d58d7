/-! plate -/
abbrev rm_plate : Room := { frames := 6, cells := 0, slots := 0, locals := 135 }
abbrev wn_plate : List Cond := .code yX8_plate cX8_plate 2 (some .int) :: wsM
def fm_plate (n : Nat) (σ : MS) : Option (Int32 × MS) := if ((σ.1 0 11) = 6) then (bd (fm_no n σ (-6)) (fun r7 σ8 => some (r7, σ8))) else (bd (fm_readsPlate n σ) (fun r2 σ3 => sq (mp σ3 0 9 0) (fun σ4 => if (r2 = 0) then (some (((-20) - (σ4.1 0 10)), σ4)) else (sq (mp σ4 0 11 ((σ4.1 0 11) + 1)) (fun σ6 => some (((σ6.1 0 11) - 1), σ6))))))
set_option maxRecDepth 100000 in
set_option maxHeartbeats 4000000 in
theorem tbm_plate_0 {p : Program} {l : Launch} {e : Env} {s : State} {m : MethodId} {args : Array Value} {below : List Frame} {meth : Method} {c : Code} {D : va_G} {A : Nat → Prop} {ad : Nat → Nat} {cy : ClassId} {r0 : Int32} {σ0 : MS} (hc : cxB RX8 wsM cX8_plate 2 (some .int) p s m args meth c) (hK : va_K D vwCl [(cy, .int)] s) (hA : ∀ q, s.heap.size ≤ q → A q) (n : Nat) (σ : MS) {H : Heap} {locs : List Loc} {ls : Array Slot} (hB : mB D ad cy A s.heap σ H locs) (hl : lv_has ls 2 [(0, .ref (ad 0))]) (hf : fm_plate n σ = some (r0, σ0)) : W p l e rm_plate s m args below meth c H locs 0 0 (MQ below (mQi D ad cy A r0 σ0) args s 0 0 A) (F0 m 0 ls []) := by
  obtain ⟨hx, hb, hml, hown, hts, hr, hlocks⟩ := id hc
  unfold fm_plate at hf
  refine lv_aload_n hx hb dX8_plate_0 rfl (lv_at hl 0 rfl) ?_
  refine rm_get hx hb hts inM hown hK hB 11 (Nat.le_of_ble_eq_true rfl) qf_123 rfl dX8_plate_1 ?_
  refine lv_bipush (v := 6) hx hb dX8_plate_4 (by decide) ?_
  refine lv_icmp_ne (tgt := 16) hx hb dX8_plate_6 (by decide) (fun c1 => ?_) (fun c1 => ?_)
  · have hf := it_f hf c1
    refine lv_aload_n hx hb dX8_plate_16 rfl (lv_at hl 0 rfl) ?_
    obtain ⟨r2, σ3, hkr2, hf⟩ := bd_e hf
    refine rm_calliV (av := []) (rest := []) hx hb hml hown hts hl.1 hK hA hB (cm_readsPlate l D ad cy n σ hkr2) (kw_readsPlate hts ⟨Nat.le_of_ble_eq_true rfl, Nat.le_of_ble_eq_true rfl⟩) rfl rfl (lv_room (Nat.le_of_ble_eq_true rfl)) dX8_plate_17 (Nat.le_refl _) (Nat.le_refl _) (fun H locs hB => ?_)
    refine lv_istore_n (lv' := [(1, .int r2), (0, .ref (ad 0))]) hx hb dX8_plate_20 rfl hl (by decide) rfl (fun ls hl => ?_)
    refine lv_aload_n hx hb dX8_plate_21 rfl (lv_at hl 1 rfl) ?_
    refine lv_iconst (v := 0) hx hb dX8_plate_22 (by decide) ?_
    refine rm_puti hx hb hts inM hown hK hB 9 (Nat.le_of_ble_eq_true rfl) qf_90 (ms_9 _ _ _) rfl pd_9 rfl rfl dX8_plate_23 (fun σ4 eσ4 H locs hB => ?_)
    have hf := sq_e hf σ4 eσ4
    refine lv_iload_n hx hb dX8_plate_26 rfl (lv_at hl 0 rfl) ?_
    refine lv_if_ne (tgt := 38) hx hb dX8_plate_27 (by decide) (fun c5 => ?_) (fun c5 => ?_)
    · have hf := it_f hf c5
      refine lv_aload_n hx hb dX8_plate_38 rfl (lv_at hl 1 rfl) ?_
      refine lv_dup hx hb dX8_plate_39 rfl ?_
      refine rm_get hx hb hts inM hown hK hB 11 (Nat.le_of_ble_eq_true rfl) qf_123 rfl dX8_plate_40 ?_
      refine lv_iconst (v := 1) hx hb dX8_plate_43 (by decide) ?_
      refine lv_iadd hx hb dX8_plate_44 ?_
      refine rm_puti hx hb hts inM hown hK hB 11 (Nat.le_of_ble_eq_true rfl) qf_123 (ms_11 _ _ _) rfl pd_11 rfl rfl dX8_plate_45 (fun σ6 eσ6 H locs hB => ?_)
      have hf := sq_e hf σ6 eσ6
      refine lv_aload_n hx hb dX8_plate_48 rfl (lv_at hl 1 rfl) ?_
      refine rm_get hx hb hts inM hown hK hB 11 (Nat.le_of_ble_eq_true rfl) qf_123 rfl dX8_plate_49 ?_
      refine lv_iconst (v := 1) hx hb dX8_plate_52 (by decide) ?_
      refine lv_isub hx hb dX8_plate_53 ?_
      obtain ⟨rfl, rfl⟩ := so_e hf
      exact rm_iret hx hb hr hlocks hK hB dX8_plate_54
    · have hf := it_t hf c5
      refine lv_bipush (v := (-20)) hx hb dX8_plate_30 (by decide) ?_
      refine lv_aload_n hx hb dX8_plate_32 rfl (lv_at hl 1 rfl) ?_
      refine rm_get hx hb hts inM hown hK hB 10 (Nat.le_of_ble_eq_true rfl) qf_99 rfl dX8_plate_33 ?_
      refine lv_isub hx hb dX8_plate_36 ?_
      obtain ⟨rfl, rfl⟩ := so_e hf
      exact rm_iret hx hb hr hlocks hK hB dX8_plate_37
  · have hf := it_t hf c1
    refine lv_aload_n hx hb dX8_plate_9 rfl (lv_at hl 0 rfl) ?_
    refine lv_bipush (v := (-6)) hx hb dX8_plate_10 (by decide) ?_
    obtain ⟨r7, σ8, hkr7, hf⟩ := bd_e hf
    refine rm_calliV (av := [.int (-6)]) (rest := []) hx hb hml hown hts hl.1 hK hA hB (cm_no l D ad cy n σ (-6) hkr7) (kw_no hts ⟨Nat.le_of_ble_eq_true rfl, Nat.le_of_ble_eq_true rfl⟩) rfl rfl (lv_room (Nat.le_of_ble_eq_true rfl)) dX8_plate_12 (Nat.le_refl _) (Nat.le_refl _) (fun H locs hB => ?_)
    obtain ⟨rfl, rfl⟩ := so_e hf
    exact rm_iret hx hb hr hlocks hK hB dX8_plate_15
theorem cm_plate (l : Launch) (D : va_G) (ad : Nat → Nat) (cy : ClassId) (n : Nat) (σ : MS) {r0 : Int32} {σ0 : MS} (hf : fm_plate n σ = some (r0, σ0)) : mMi l yX8_plate wn_plate rm_plate D ad cy [.ref (ad 0)] σ r0 σ0 :=
  rm_meti (ret := (some .int)) (by decide) rfl (Nat.le_of_ble_eq_true rfl) (fun p e s m below meth c A ls hc hK hA hB hl => tbm_plate_0 hc hK hA n σ hB hl hf)
/-! isPlate -/
abbrev rm_isPlate : Room := { frames := 0, cells := 0, slots := 0, locals := 0 }
abbrev wn_isPlate : List Cond := .code yX8_isPlate cX8_isPlate 2 (some .boolean) :: wsM
def fm_isPlate (n : Nat) (σ : MS) (x1 : Int32) : Option (Int32 × MS) := if (x1 < 0) then (some (0, σ)) else (if ((σ.1 0 11) ≤ x1) then (some (0, σ)) else (some (1, σ)))
set_option maxRecDepth 100000 in
set_option maxHeartbeats 4000000 in
theorem tbm_isPlate_0 {p : Program} {l : Launch} {e : Env} {s : State} {m : MethodId} {args : Array Value} {below : List Frame} {meth : Method} {c : Code} {D : va_G} {A : Nat → Prop} {ad : Nat → Nat} {cy : ClassId} {r0 : Int32} {σ0 : MS} (hc : cxB RX8 wsM cX8_isPlate 2 (some .boolean) p s m args meth c) (hK : va_K D vwCl [(cy, .int)] s) (hA : ∀ q, s.heap.size ≤ q → A q) (n : Nat) (σ : MS) (x1 : Int32) {H : Heap} {locs : List Loc} {ls : Array Slot} (hB : mB D ad cy A s.heap σ H locs) (hl : lv_has ls 2 [(0, .ref (ad 0)), (1, .int x1)]) (hf : fm_isPlate n σ x1 = some (r0, σ0)) : W p l e rm_isPlate s m args below meth c H locs 0 0 (MQ below (mQi D ad cy A r0 σ0) args s 0 0 A) (F0 m 0 ls []) := by
  obtain ⟨hx, hb, hml, hown, hts, hr, hlocks⟩ := id hc
  unfold fm_isPlate at hf
  refine lv_iload_n hx hb dX8_isPlate_0 rfl (lv_at hl 1 rfl) ?_
  refine lv_if_lt (tgt := 16) hx hb dX8_isPlate_1 (by decide) (fun c1 => ?_) (fun c1 => ?_)
  · have hf := it_t hf c1
    refine lv_iconst (v := 0) hx hb dX8_isPlate_16 (by decide) ?_
    obtain ⟨rfl, rfl⟩ := so_e hf
    exact rm_zret hx hb hr hlocks rfl hK hB dX8_isPlate_17
  · have hf := it_f hf c1
    refine lv_iload_n hx hb dX8_isPlate_4 rfl (lv_at hl 1 rfl) ?_
    refine lv_aload_n hx hb dX8_isPlate_5 rfl (lv_at hl 0 rfl) ?_
    refine rm_get hx hb hts inM hown hK hB 11 (Nat.le_of_ble_eq_true rfl) qf_123 rfl dX8_isPlate_6 ?_
    refine lv_icmp_ge (tgt := 16) hx hb dX8_isPlate_9 (by decide) (fun c2 => ?_) (fun c2 => ?_)
    · have hf := it_t hf c2
      refine lv_iconst (v := 0) hx hb dX8_isPlate_16 (by decide) ?_
      obtain ⟨rfl, rfl⟩ := so_e hf
      exact rm_zret hx hb hr hlocks rfl hK hB dX8_isPlate_17
    · have hf := it_f hf c2
      refine lv_iconst (v := 1) hx hb dX8_isPlate_12 (by decide) ?_
      refine lv_goto (tgt := 17) hx hb dX8_isPlate_13 (by decide) ?_
      obtain ⟨rfl, rfl⟩ := so_e hf
      exact rm_zret hx hb hr hlocks rfl hK hB dX8_isPlate_17
theorem cm_isPlate (l : Launch) (D : va_G) (ad : Nat → Nat) (cy : ClassId) (n : Nat) (σ : MS) (x1 : Int32) {r0 : Int32} {σ0 : MS} (hf : fm_isPlate n σ x1 = some (r0, σ0)) : mMi l yX8_isPlate wn_isPlate rm_isPlate D ad cy [.ref (ad 0), .int x1] σ r0 σ0 :=
  rm_meti (ret := (some .boolean)) (by decide) rfl (Nat.le_of_ble_eq_true rfl) (fun p e s m below meth c A ls hc hK hA hB hl => tbm_isPlate_0 hc hK hA n σ x1 hB hl hf)
theorem kw_isPlate {R : Room} {s : State} {args : Array Value} (hts : ∀ w ∈ wsM, w.before args s = true) (hR : rm_isPlate.frames + 1 ≤ R.frames ∧ 8 + (2 + 11) + rm_isPlate.locals ≤ R.locals) : CallW R s args RX8 RX8 129 yX8_isPlate cX8_isPlate 2 (some .boolean) wn_isPlate rm_isPlate 0 0 1 := cwV 1 hts (gM_v qw_71 qw_72 qw_73 qw_37 qw_69) rfl rfl rfl (by decide +kernel) hR
/-! isFloor -/
abbrev rm_isFloor : Room := { frames := 0, cells := 0, slots := 0, locals := 0 }
abbrev wn_isFloor : List Cond := .code yX8_isFloor cX8_isFloor 1 (some .boolean) :: wsM
def fm_isFloor (n : Nat) (σ : MS) (x0 : Int32) : Option (Int32 × MS) := if (x0 < 0) then (some (0, σ)) else (if (4 ≤ x0) then (some (0, σ)) else (some (1, σ)))
set_option maxRecDepth 100000 in
set_option maxHeartbeats 4000000 in
theorem tbm_isFloor_0 {p : Program} {l : Launch} {e : Env} {s : State} {m : MethodId} {args : Array Value} {below : List Frame} {meth : Method} {c : Code} {D : va_G} {A : Nat → Prop} {ad : Nat → Nat} {cy : ClassId} {r0 : Int32} {σ0 : MS} (hc : cxB RX8 wsM cX8_isFloor 1 (some .boolean) p s m args meth c) (hK : va_K D vwCl [(cy, .int)] s) (hA : ∀ q, s.heap.size ≤ q → A q) (n : Nat) (σ : MS) (x0 : Int32) {H : Heap} {locs : List Loc} {ls : Array Slot} (hB : mB D ad cy A s.heap σ H locs) (hl : lv_has ls 1 [(0, .int x0)]) (hf : fm_isFloor n σ x0 = some (r0, σ0)) : W p l e rm_isFloor s m args below meth c H locs 0 0 (MQ below (mQi D ad cy A r0 σ0) args s 0 0 A) (F0 m 0 ls []) := by
  obtain ⟨hx, hb, hml, hown, hts, hr, hlocks⟩ := id hc
  unfold fm_isFloor at hf
  refine lv_iload_n hx hb dX8_isFloor_0 rfl (lv_at hl 0 rfl) ?_
  refine lv_if_lt (tgt := 13) hx hb dX8_isFloor_1 (by decide) (fun c1 => ?_) (fun c1 => ?_)
  · have hf := it_t hf c1
    refine lv_iconst (v := 0) hx hb dX8_isFloor_13 (by decide) ?_
    obtain ⟨rfl, rfl⟩ := so_e hf
    exact rm_zret hx hb hr hlocks rfl hK hB dX8_isFloor_14
  · have hf := it_f hf c1
    refine lv_iload_n hx hb dX8_isFloor_4 rfl (lv_at hl 0 rfl) ?_
    refine lv_iconst (v := 4) hx hb dX8_isFloor_5 (by decide) ?_
    refine lv_icmp_ge (tgt := 13) hx hb dX8_isFloor_6 (by decide) (fun c2 => ?_) (fun c2 => ?_)
    · have hf := it_t hf c2
      refine lv_iconst (v := 0) hx hb dX8_isFloor_13 (by decide) ?_
      obtain ⟨rfl, rfl⟩ := so_e hf
      exact rm_zret hx hb hr hlocks rfl hK hB dX8_isFloor_14
    · have hf := it_f hf c2
      refine lv_iconst (v := 1) hx hb dX8_isFloor_9 (by decide) ?_
      refine lv_goto (tgt := 14) hx hb dX8_isFloor_10 (by decide) ?_
      obtain ⟨rfl, rfl⟩ := so_e hf
      exact rm_zret hx hb hr hlocks rfl hK hB dX8_isFloor_14
theorem cm_isFloor (l : Launch) (D : va_G) (ad : Nat → Nat) (cy : ClassId) (n : Nat) (σ : MS) (x0 : Int32) {r0 : Int32} {σ0 : MS} (hf : fm_isFloor n σ x0 = some (r0, σ0)) : mMi l yX8_isFloor wn_isFloor rm_isFloor D ad cy [.int x0] σ r0 σ0 :=
  rm_meti (ret := (some .boolean)) (by decide) rfl (Nat.le_of_ble_eq_true rfl) (fun p e s m below meth c A ls hc hK hA hB hl => tbm_isFloor_0 hc hK hA n σ x0 hB hl hf)
theorem kw_isFloor {R : Room} {s : State} {args : Array Value} (hts : ∀ w ∈ wsM, w.before args s = true) (hR : rm_isFloor.frames + 1 ≤ R.frames ∧ 8 + (1 + 11) + rm_isFloor.locals ≤ R.locals) : CallB R s args RX8 174 yX8_isFloor cX8_isFloor 1 (some .boolean) wn_isFloor rm_isFloor 0 0 1 ∧ (Cond.static yX8_isFloor).before args s = true := va_cwS 1 hts (gM_s qw_110 qw_111 qw_37 qw_70) rfl rfl rfl (by decide +kernel) hR
/-! plateOf -/
abbrev rm_plateOf : Room := { frames := 1, cells := 0, slots := 0, locals := 21 }
abbrev wn_plateOf : List Cond := .code yX8_plateOf cX8_plateOf 3 (some .int) :: wsM
def fm_plateOf (n : Nat) (σ : MS) (x1 : Int32) (x2 : Int32) : Option (Int32 × MS) := bd (fm_isPlate n σ x1) (fun r1 σ2 => if (r1 = 0) then (bd (fm_no n σ2 (-1)) (fun r21 σ22 => some (r21, σ22))) else (if (x2 = 0) then (ck (ib x1 7) (sq ((σ2.1 3 (Int32.toNatClampNeg x1)) : Int32) (fun y20 => some (y20, σ2)))) else (if (x2 = 1) then (ck (ib x1 7) (sq ((σ2.1 4 (Int32.toNatClampNeg x1)) : Int32) (fun y18 => some (y18, σ2)))) else (if (x2 = 2) then (ck (ib x1 7) (sq ((σ2.1 5 (Int32.toNatClampNeg x1)) : Int32) (fun y16 => some (y16, σ2)))) else (if (x2 = 3) then (ck (ib x1 7) (sq ((σ2.1 6 (Int32.toNatClampNeg x1)) : Int32) (fun y14 => some (y14, σ2)))) else (if (x2 = 4) then (ck (ib x1 7) (sq ((σ2.1 7 (Int32.toNatClampNeg x1)) : Int32) (fun y12 => some (y12, σ2)))) else (bd (fm_no n σ2 (-2)) (fun r4 σ5 => some (r4, σ5)))))))))
set_option maxRecDepth 100000 in
set_option maxHeartbeats 4000000 in
theorem tbm_plateOf_0 {p : Program} {l : Launch} {e : Env} {s : State} {m : MethodId} {args : Array Value} {below : List Frame} {meth : Method} {c : Code} {D : va_G} {A : Nat → Prop} {ad : Nat → Nat} {cy : ClassId} {r0 : Int32} {σ0 : MS} (hc : cxB RX8 wsM cX8_plateOf 3 (some .int) p s m args meth c) (hK : va_K D vwCl [(cy, .int)] s) (hA : ∀ q, s.heap.size ≤ q → A q) (n : Nat) (σ : MS) (x1 : Int32) (x2 : Int32) {H : Heap} {locs : List Loc} {ls : Array Slot} (hB : mB D ad cy A s.heap σ H locs) (hl : lv_has ls 3 [(0, .ref (ad 0)), (1, .int x1), (2, .int x2)]) (hf : fm_plateOf n σ x1 x2 = some (r0, σ0)) : W p l e rm_plateOf s m args below meth c H locs 0 0 (MQ below (mQi D ad cy A r0 σ0) args s 0 0 A) (F0 m 0 ls []) := by
  obtain ⟨hx, hb, hml, hown, hts, hr, hlocks⟩ := id hc
  unfold fm_plateOf at hf
  refine lv_aload_n hx hb dX8_plateOf_0 rfl (lv_at hl 0 rfl) ?_
  refine lv_iload_n hx hb dX8_plateOf_1 rfl (lv_at hl 1 rfl) ?_
  obtain ⟨r1, σ2, hkr1, hf⟩ := bd_e hf
  refine rm_calliV (av := [.int x1]) (rest := []) hx hb hml hown hts hl.1 hK hA hB (cm_isPlate l D ad cy n σ x1 hkr1) (kw_isPlate hts ⟨Nat.le_of_ble_eq_true rfl, Nat.le_of_ble_eq_true rfl⟩) rfl rfl (lv_room (Nat.le_of_ble_eq_true rfl)) dX8_plateOf_2 (Nat.le_refl _) (Nat.le_refl _) (fun H locs hB => ?_)
  refine lv_if_ne (tgt := 14) hx hb dX8_plateOf_5 (by decide) (fun c3 => ?_) (fun c3 => ?_)
  · have hf := it_f hf c3
    refine lv_iload_n hx hb dX8_plateOf_14 rfl (lv_at hl 2 rfl) ?_
    by_cases c6 : x2 = 0
    · have hf := it_t hf c6
      refine lv_tableIn (tgt := 48) hx hb dX8_plateOf_15 (by rw [c6]; decide) (by rw [c6]; decide) (by rw [c6]; rfl) (by decide) ?_
      refine lv_aload_n hx hb dX8_plateOf_48 rfl (lv_at hl 0 rfl) ?_
      refine rm_get hx hb hts inM hown hK hB 2 (Nat.le_of_ble_eq_true rfl) qf_16 rfl dX8_plateOf_49 ?_
      refine lv_iload_n hx hb dX8_plateOf_52 rfl (lv_at hl 1 rfl) ?_
      obtain ⟨k19, hf⟩ := ck_e hf
      refine rm_ald hx hb hK hB 3 rfl k19 dX8_plateOf_53 ?_
      refine lv_topi (fun y20 ey20 => ?_)
      have hf := sq_e hf y20 ey20
      obtain ⟨rfl, rfl⟩ := so_e hf
      exact rm_iret hx hb hr hlocks hK hB dX8_plateOf_54
    · have hf := it_f hf c6
      by_cases c7 : x2 = 1
      · have hf := it_t hf c7
        refine lv_tableIn (tgt := 55) hx hb dX8_plateOf_15 (by rw [c7]; decide) (by rw [c7]; decide) (by rw [c7]; rfl) (by decide) ?_
        refine lv_aload_n hx hb dX8_plateOf_55 rfl (lv_at hl 0 rfl) ?_
        refine rm_get hx hb hts inM hown hK hB 3 (Nat.le_of_ble_eq_true rfl) qf_19 rfl dX8_plateOf_56 ?_
        refine lv_iload_n hx hb dX8_plateOf_59 rfl (lv_at hl 1 rfl) ?_
        obtain ⟨k17, hf⟩ := ck_e hf
        refine rm_ald hx hb hK hB 4 rfl k17 dX8_plateOf_60 ?_
        refine lv_topi (fun y18 ey18 => ?_)
        have hf := sq_e hf y18 ey18
        obtain ⟨rfl, rfl⟩ := so_e hf
        exact rm_iret hx hb hr hlocks hK hB dX8_plateOf_61
      · have hf := it_f hf c7
        by_cases c8 : x2 = 2
        · have hf := it_t hf c8
          refine lv_tableIn (tgt := 62) hx hb dX8_plateOf_15 (by rw [c8]; decide) (by rw [c8]; decide) (by rw [c8]; rfl) (by decide) ?_
          refine lv_aload_n hx hb dX8_plateOf_62 rfl (lv_at hl 0 rfl) ?_
          refine rm_get hx hb hts inM hown hK hB 4 (Nat.le_of_ble_eq_true rfl) qf_22 rfl dX8_plateOf_63 ?_
          refine lv_iload_n hx hb dX8_plateOf_66 rfl (lv_at hl 1 rfl) ?_
          obtain ⟨k15, hf⟩ := ck_e hf
          refine rm_ald hx hb hK hB 5 rfl k15 dX8_plateOf_67 ?_
          refine lv_topi (fun y16 ey16 => ?_)
          have hf := sq_e hf y16 ey16
          obtain ⟨rfl, rfl⟩ := so_e hf
          exact rm_iret hx hb hr hlocks hK hB dX8_plateOf_68
        · have hf := it_f hf c8
          by_cases c9 : x2 = 3
          · have hf := it_t hf c9
            refine lv_tableIn (tgt := 69) hx hb dX8_plateOf_15 (by rw [c9]; decide) (by rw [c9]; decide) (by rw [c9]; rfl) (by decide) ?_
            refine lv_aload_n hx hb dX8_plateOf_69 rfl (lv_at hl 0 rfl) ?_
            refine rm_get hx hb hts inM hown hK hB 5 (Nat.le_of_ble_eq_true rfl) qf_25 rfl dX8_plateOf_70 ?_
            refine lv_iload_n hx hb dX8_plateOf_73 rfl (lv_at hl 1 rfl) ?_
            obtain ⟨k13, hf⟩ := ck_e hf
            refine rm_ald hx hb hK hB 6 rfl k13 dX8_plateOf_74 ?_
            refine lv_topi (fun y14 ey14 => ?_)
            have hf := sq_e hf y14 ey14
            obtain ⟨rfl, rfl⟩ := so_e hf
            exact rm_iret hx hb hr hlocks hK hB dX8_plateOf_75
          · have hf := it_f hf c9
            by_cases c10 : x2 = 4
            · have hf := it_t hf c10
              refine lv_tableIn (tgt := 76) hx hb dX8_plateOf_15 (by rw [c10]; decide) (by rw [c10]; decide) (by rw [c10]; rfl) (by decide) ?_
              refine lv_aload_n hx hb dX8_plateOf_76 rfl (lv_at hl 0 rfl) ?_
              refine rm_get hx hb hts inM hown hK hB 6 (Nat.le_of_ble_eq_true rfl) qf_28 rfl dX8_plateOf_77 ?_
              refine lv_iload_n hx hb dX8_plateOf_80 rfl (lv_at hl 1 rfl) ?_
              obtain ⟨k11, hf⟩ := ck_e hf
              refine rm_ald hx hb hK hB 7 rfl k11 dX8_plateOf_81 ?_
              refine lv_topi (fun y12 ey12 => ?_)
              have hf := sq_e hf y12 ey12
              obtain ⟨rfl, rfl⟩ := so_e hf
              exact rm_iret hx hb hr hlocks hK hB dX8_plateOf_82
            · have hf := it_f hf c10
              refine sw_d (tgt := 83) hx hb dX8_plateOf_15 (by have n_0 := lv_neT c6 (a := 0) (by decide); have n_1 := lv_neT c7 (a := 1) (by decide); have n_2 := lv_neT c8 (a := 2) (by decide); have n_3 := lv_neT c9 (a := 3) (by decide); have n_4 := lv_neT c10 (a := 4) (by decide); rcases (show (x2).toInt < 0 ∨ 4 < (x2).toInt by omega) with q | q; exact Or.inl q; exact Or.inr (Or.inl q)) (by decide) ?_
              refine lv_aload_n hx hb dX8_plateOf_83 rfl (lv_at hl 0 rfl) ?_
              refine lv_bipush (v := (-2)) hx hb dX8_plateOf_84 (by decide) ?_
              obtain ⟨r4, σ5, hkr4, hf⟩ := bd_e hf
              refine rm_calliV (av := [.int (-2)]) (rest := []) hx hb hml hown hts hl.1 hK hA hB (cm_no l D ad cy n σ2 (-2) hkr4) (kw_no hts ⟨Nat.le_of_ble_eq_true rfl, Nat.le_of_ble_eq_true rfl⟩) rfl rfl (lv_room (Nat.le_of_ble_eq_true rfl)) dX8_plateOf_86 (Nat.le_refl _) (Nat.le_refl _) (fun H locs hB => ?_)
              obtain ⟨rfl, rfl⟩ := so_e hf
              exact rm_iret hx hb hr hlocks hK hB dX8_plateOf_89
  · have hf := it_t hf c3
    refine lv_aload_n hx hb dX8_plateOf_8 rfl (lv_at hl 0 rfl) ?_
    refine lv_iconst (v := (-1)) hx hb dX8_plateOf_9 (by decide) ?_
    obtain ⟨r21, σ22, hkr21, hf⟩ := bd_e hf
    refine rm_calliV (av := [.int (-1)]) (rest := []) hx hb hml hown hts hl.1 hK hA hB (cm_no l D ad cy n σ2 (-1) hkr21) (kw_no hts ⟨Nat.le_of_ble_eq_true rfl, Nat.le_of_ble_eq_true rfl⟩) rfl rfl (lv_room (Nat.le_of_ble_eq_true rfl)) dX8_plateOf_10 (Nat.le_refl _) (Nat.le_refl _) (fun H locs hB => ?_)
    obtain ⟨rfl, rfl⟩ := so_e hf
    exact rm_iret hx hb hr hlocks hK hB dX8_plateOf_13
theorem cm_plateOf (l : Launch) (D : va_G) (ad : Nat → Nat) (cy : ClassId) (n : Nat) (σ : MS) (x1 : Int32) (x2 : Int32) {r0 : Int32} {σ0 : MS} (hf : fm_plateOf n σ x1 x2 = some (r0, σ0)) : mMi l yX8_plateOf wn_plateOf rm_plateOf D ad cy [.ref (ad 0), .int x1, .int x2] σ r0 σ0 :=
  rm_meti (ret := (some .int)) (by decide) rfl (Nat.le_of_ble_eq_true rfl) (fun p e s m below meth c A ls hc hK hA hB hl => tbm_plateOf_0 hc hK hA n σ x1 x2 hB hl hf)
/-! emits -/
abbrev rm_emits : Room := { frames := 0, cells := 0, slots := 0, locals := 0 }
abbrev wn_emits : List Cond := .code yX8_emits cX8_emits 2 none :: wsM
def fm_emits (n : Nat) (σ : MS) (x1 : Int32) : Option (Int32 × MS) := ck (ib (σ.1 0 22) 300) (sq (mp σ 14 (Int32.toNatClampNeg (σ.1 0 22)) x1) (fun σ2 => sq (mp σ2 0 22 ((σ2.1 0 22) + 1)) (fun σ3 => some (0, σ3))))
set_option maxRecDepth 100000 in
set_option maxHeartbeats 4000000 in
theorem tbm_emits_0 {p : Program} {l : Launch} {e : Env} {s : State} {m : MethodId} {args : Array Value} {below : List Frame} {meth : Method} {c : Code} {D : va_G} {A : Nat → Prop} {ad : Nat → Nat} {cy : ClassId} {r0 : Int32} {σ0 : MS} (hc : cxB RX8 wsM cX8_emits 2 none p s m args meth c) (hK : va_K D vwCl [(cy, .int)] s) (hA : ∀ q, s.heap.size ≤ q → A q) (n : Nat) (σ : MS) (x1 : Int32) {H : Heap} {locs : List Loc} {ls : Array Slot} (hB : mB D ad cy A s.heap σ H locs) (hl : lv_has ls 2 [(0, .ref (ad 0)), (1, .int x1)]) (hf : fm_emits n σ x1 = some (r0, σ0)) : W p l e rm_emits s m args below meth c H locs 0 0 (MQ below (mQv D ad cy A σ0) args s 0 0 A) (F0 m 0 ls []) := by
  obtain ⟨hx, hb, hml, hown, hts, hr, hlocks⟩ := id hc
  unfold fm_emits at hf
  refine lv_aload_n hx hb dX8_emits_0 rfl (lv_at hl 0 rfl) ?_
  refine rm_get hx hb hts inM hown hK hB 17 (Nat.le_of_ble_eq_true rfl) qf_53 rfl dX8_emits_1 ?_
  refine lv_aload_n hx hb dX8_emits_4 rfl (lv_at hl 0 rfl) ?_
  refine rm_get hx hb hts inM hown hK hB 22 (Nat.le_of_ble_eq_true rfl) qf_133 rfl dX8_emits_5 ?_
  refine lv_iload_n hx hb dX8_emits_8 rfl (lv_at hl 1 rfl) ?_
  obtain ⟨k1, hf⟩ := ck_e hf
  refine rm_ast hx hb hK hB 14 rfl (msa_14 _ _ _) k1 dX8_emits_9 (fun σ2 eσ2 H locs hB => ?_)
  have hf := sq_e hf σ2 eσ2
  refine lv_aload_n hx hb dX8_emits_10 rfl (lv_at hl 0 rfl) ?_
  refine lv_dup hx hb dX8_emits_11 rfl ?_
  refine rm_get hx hb hts inM hown hK hB 22 (Nat.le_of_ble_eq_true rfl) qf_133 rfl dX8_emits_12 ?_
  refine lv_iconst (v := 1) hx hb dX8_emits_15 (by decide) ?_
  refine lv_iadd hx hb dX8_emits_16 ?_
  refine rm_puti hx hb hts inM hown hK hB 22 (Nat.le_of_ble_eq_true rfl) qf_133 (ms_22 _ _ _) rfl pd_22 rfl rfl dX8_emits_17 (fun σ3 eσ3 H locs hB => ?_)
  have hf := sq_e hf σ3 eσ3
  obtain ⟨rfl, rfl⟩ := so_e hf
  exact rm_vret hx hb hr hlocks hK hB dX8_emits_20
theorem cm_emits (l : Launch) (D : va_G) (ad : Nat → Nat) (cy : ClassId) (n : Nat) (σ : MS) (x1 : Int32) {r0 : Int32} {σ0 : MS} (hf : fm_emits n σ x1 = some (r0, σ0)) : mMv l yX8_emits wn_emits rm_emits D ad cy [.ref (ad 0), .int x1] σ σ0 :=
  rm_metv (ret := none) (by decide) rfl (Nat.le_of_ble_eq_true rfl) (fun p e s m below meth c A ls hc hK hA hB hl => tbm_emits_0 hc hK hA n σ x1 hB hl hf)
theorem kw_emits {R : Room} {s : State} {args : Array Value} (hts : ∀ w ∈ wsM, w.before args s = true) (hR : rm_emits.frames + 1 ≤ R.frames ∧ 8 + (2 + 11) + rm_emits.locals ≤ R.locals) : CallW R s args RX8 RX8 142 yX8_emits cX8_emits 2 none wn_emits rm_emits 0 0 1 := cwV 1 hts (gM_v qw_81 qw_82 qw_83 qw_37 qw_74) rfl rfl rfl (by decide +kernel) hR
/-! strength -/
abbrev rm_strength : Room := { frames := 0, cells := 0, slots := 0, locals := 0 }
abbrev wn_strength : List Cond := .code yX8_strength cX8_strength 1 (some .int) :: wsM
def fm_strength (n : Nat) (σ : MS) (x0 : Int32) : Option (Int32 × MS) := if (x0 = 43) then (some (1, σ)) else (if (x0 = 45) then (some (1, σ)) else (if (x0 = 42) then (some (2, σ)) else (if (x0 = 47) then (some (2, σ)) else (some (0, σ)))))
set_option maxRecDepth 100000 in
set_option maxHeartbeats 4000000 in
theorem tbm_strength_0 {p : Program} {l : Launch} {e : Env} {s : State} {m : MethodId} {args : Array Value} {below : List Frame} {meth : Method} {c : Code} {D : va_G} {A : Nat → Prop} {ad : Nat → Nat} {cy : ClassId} {r0 : Int32} {σ0 : MS} (hc : cxB RX8 wsM cX8_strength 1 (some .int) p s m args meth c) (hK : va_K D vwCl [(cy, .int)] s) (hA : ∀ q, s.heap.size ≤ q → A q) (n : Nat) (σ : MS) (x0 : Int32) {H : Heap} {locs : List Loc} {ls : Array Slot} (hB : mB D ad cy A s.heap σ H locs) (hl : lv_has ls 1 [(0, .int x0)]) (hf : fm_strength n σ x0 = some (r0, σ0)) : W p l e rm_strength s m args below meth c H locs 0 0 (MQ below (mQi D ad cy A r0 σ0) args s 0 0 A) (F0 m 0 ls []) := by
  obtain ⟨hx, hb, hml, hown, hts, hr, hlocks⟩ := id hc
  unfold fm_strength at hf
  refine lv_iload_n hx hb dX8_strength_0 rfl (lv_at hl 0 rfl) ?_
  refine lv_bipush (v := 43) hx hb dX8_strength_1 (by decide) ?_
  refine lv_icmp_eq (tgt := 12) hx hb dX8_strength_3 (by decide) (fun c1 => ?_) (fun c1 => ?_)
  · have hf := it_t hf c1
    refine lv_iconst (v := 1) hx hb dX8_strength_12 (by decide) ?_
    refine lv_goto (tgt := 33) hx hb dX8_strength_13 (by decide) ?_
    obtain ⟨rfl, rfl⟩ := so_e hf
    exact rm_iret hx hb hr hlocks hK hB dX8_strength_33
  · have hf := it_f hf c1
    refine lv_iload_n hx hb dX8_strength_6 rfl (lv_at hl 0 rfl) ?_
    refine lv_bipush (v := 45) hx hb dX8_strength_7 (by decide) ?_
    refine lv_icmp_ne (tgt := 16) hx hb dX8_strength_9 (by decide) (fun c2 => ?_) (fun c2 => ?_)
    · have hf := it_f hf c2
      refine lv_iload_n hx hb dX8_strength_16 rfl (lv_at hl 0 rfl) ?_
      refine lv_bipush (v := 42) hx hb dX8_strength_17 (by decide) ?_
      refine lv_icmp_eq (tgt := 28) hx hb dX8_strength_19 (by decide) (fun c3 => ?_) (fun c3 => ?_)
      · have hf := it_t hf c3
        refine lv_iconst (v := 2) hx hb dX8_strength_28 (by decide) ?_
        refine lv_goto (tgt := 33) hx hb dX8_strength_29 (by decide) ?_
        obtain ⟨rfl, rfl⟩ := so_e hf
        exact rm_iret hx hb hr hlocks hK hB dX8_strength_33
      · have hf := it_f hf c3
        refine lv_iload_n hx hb dX8_strength_22 rfl (lv_at hl 0 rfl) ?_
        refine lv_bipush (v := 47) hx hb dX8_strength_23 (by decide) ?_
        refine lv_icmp_ne (tgt := 32) hx hb dX8_strength_25 (by decide) (fun c4 => ?_) (fun c4 => ?_)
        · have hf := it_f hf c4
          refine lv_iconst (v := 0) hx hb dX8_strength_32 (by decide) ?_
          obtain ⟨rfl, rfl⟩ := so_e hf
          exact rm_iret hx hb hr hlocks hK hB dX8_strength_33
        · have hf := it_t hf c4
          refine lv_iconst (v := 2) hx hb dX8_strength_28 (by decide) ?_
          refine lv_goto (tgt := 33) hx hb dX8_strength_29 (by decide) ?_
          obtain ⟨rfl, rfl⟩ := so_e hf
          exact rm_iret hx hb hr hlocks hK hB dX8_strength_33
    · have hf := it_t hf c2
      refine lv_iconst (v := 1) hx hb dX8_strength_12 (by decide) ?_
      refine lv_goto (tgt := 33) hx hb dX8_strength_13 (by decide) ?_
      obtain ⟨rfl, rfl⟩ := so_e hf
      exact rm_iret hx hb hr hlocks hK hB dX8_strength_33
theorem cm_strength (l : Launch) (D : va_G) (ad : Nat → Nat) (cy : ClassId) (n : Nat) (σ : MS) (x0 : Int32) {r0 : Int32} {σ0 : MS} (hf : fm_strength n σ x0 = some (r0, σ0)) : mMi l yX8_strength wn_strength rm_strength D ad cy [.int x0] σ r0 σ0 :=
  rm_meti (ret := (some .int)) (by decide) rfl (Nat.le_of_ble_eq_true rfl) (fun p e s m below meth c A ls hc hK hA hB hl => tbm_strength_0 hc hK hA n σ x0 hB hl hf)
theorem kw_strength {R : Room} {s : State} {args : Array Value} (hts : ∀ w ∈ wsM, w.before args s = true) (hR : rm_strength.frames + 1 ≤ R.frames ∧ 8 + (1 + 11) + rm_strength.locals ≤ R.locals) : CallB R s args RX8 139 yX8_strength cX8_strength 1 (some .int) wn_strength rm_strength 0 0 1 ∧ (Cond.static yX8_strength).before args s = true := va_cwS 1 hts (gM_s qw_79 qw_80 qw_37 qw_76) rfl rfl rfl (by decide +kernel) hR
/-! settles -/
abbrev rm_settles : Room := { frames := 1, cells := 0, slots := 0, locals := 21 }
abbrev wn_settles : List Cond := .code yX8_settles cX8_settles 2 none :: wsM
def bm_settles_0 (n : Nat) (K0 : MS → Int32 → Option (Int32 × MS)) (σ : MS) (x1 : Int32) : Option (Int32 × MS) := if ((σ.1 0 23) ≤ 0) then (some (0, σ)) else (ck (ib ((σ.1 0 23) - 1) 24) (sq ((σ.1 16 (Int32.toNatClampNeg ((σ.1 0 23) - 1))) : Int32) (fun y3 => if (y3 = 40) then (some (0, σ)) else (ck (ib ((σ.1 0 23) - 1) 24) (sq ((σ.1 16 (Int32.toNatClampNeg ((σ.1 0 23) - 1))) : Int32) (fun y6 => bd (fm_strength n σ y6) (fun r7 σ8 => if (r7 < x1) then (some (0, σ8)) else (sq (mp σ8 0 23 ((σ8.1 0 23) - 1)) (fun σ10 => ck (ib (σ10.1 0 23) 24) (sq ((σ10.1 16 (Int32.toNatClampNeg (σ10.1 0 23))) : Int32) (fun y12 => bd (fm_emits n σ10 y12) (fun _ σ14 => K0 σ14 x1))))))))))))
set_option maxRecDepth 100000 in
set_option maxHeartbeats 4000000 in
theorem tbm_settles_0 {p : Program} {l : Launch} {e : Env} {s : State} {m : MethodId} {args : Array Value} {below : List Frame} {meth : Method} {c : Code} {D : va_G} {A : Nat → Prop} {ad : Nat → Nat} {cy : ClassId} {r0 : Int32} {σ0 : MS} (hc : cxB RX8 wsM cX8_settles 2 none p s m args meth c) (hK : va_K D vwCl [(cy, .int)] s) (hA : ∀ q, s.heap.size ≤ q → A q) (n : Nat) (K0 : MS → Int32 → Option (Int32 × MS)) (hK0 : ∀ (σ : MS) (x1 : Int32) (H : Heap) (locs : List Loc) (ls : Array Slot), mB D ad cy A s.heap σ H locs → lv_has ls 2 [(0, .ref (ad 0)), (1, .int x1)] → K0 σ x1 = some (r0, σ0) → W p l e rm_settles s m args below meth c H locs 0 0 (MQ below (mQv D ad cy A σ0) args s 0 0 A) (F0 m 0 ls [])) (σ : MS) (x1 : Int32) {H : Heap} {locs : List Loc} {ls : Array Slot} (hB : mB D ad cy A s.heap σ H locs) (hl : lv_has ls 2 [(0, .ref (ad 0)), (1, .int x1)]) (hf : bm_settles_0 n K0 σ x1 = some (r0, σ0)) : W p l e rm_settles s m args below meth c H locs 0 0 (MQ below (mQv D ad cy A σ0) args s 0 0 A) (F0 m 0 ls []) := by
  obtain ⟨hx, hb, hml, hown, hts, hr, hlocks⟩ := id hc
  unfold bm_settles_0 at hf
  refine lv_aload_n hx hb dX8_settles_0 rfl (lv_at hl 0 rfl) ?_
  refine rm_get hx hb hts inM hown hK hB 23 (Nat.le_of_ble_eq_true rfl) qf_136 rfl dX8_settles_1 ?_
  refine lv_if_le (tgt := 67) hx hb dX8_settles_4 (by decide) (fun c1 => ?_) (fun c1 => ?_)
  · have hf := it_t hf c1
    obtain ⟨rfl, rfl⟩ := so_e hf
    exact rm_vret hx hb hr hlocks hK hB dX8_settles_67
  · have hf := it_f hf c1
    refine lv_aload_n hx hb dX8_settles_7 rfl (lv_at hl 0 rfl) ?_
    refine rm_get hx hb hts inM hown hK hB 19 (Nat.le_of_ble_eq_true rfl) qf_59 rfl dX8_settles_8 ?_
    refine lv_aload_n hx hb dX8_settles_11 rfl (lv_at hl 0 rfl) ?_
    refine rm_get hx hb hts inM hown hK hB 23 (Nat.le_of_ble_eq_true rfl) qf_136 rfl dX8_settles_12 ?_
    refine lv_iconst (v := 1) hx hb dX8_settles_15 (by decide) ?_
    refine lv_isub hx hb dX8_settles_16 ?_
    obtain ⟨k2, hf⟩ := ck_e hf
    refine rm_ald hx hb hK hB 16 rfl k2 dX8_settles_17 ?_
    refine lv_topi (fun y3 ey3 => ?_)
    have hf := sq_e hf y3 ey3
    refine lv_bipush (v := 40) hx hb dX8_settles_18 (by decide) ?_
    refine lv_icmp_eq (tgt := 67) hx hb dX8_settles_20 (by decide) (fun c4 => ?_) (fun c4 => ?_)
    · have hf := it_t hf c4
      obtain ⟨rfl, rfl⟩ := so_e hf
      exact rm_vret hx hb hr hlocks hK hB dX8_settles_67
    · have hf := it_f hf c4
      refine lv_aload_n hx hb dX8_settles_23 rfl (lv_at hl 0 rfl) ?_
      refine rm_get hx hb hts inM hown hK hB 19 (Nat.le_of_ble_eq_true rfl) qf_59 rfl dX8_settles_24 ?_
      refine lv_aload_n hx hb dX8_settles_27 rfl (lv_at hl 0 rfl) ?_
      refine rm_get hx hb hts inM hown hK hB 23 (Nat.le_of_ble_eq_true rfl) qf_136 rfl dX8_settles_28 ?_
      refine lv_iconst (v := 1) hx hb dX8_settles_31 (by decide) ?_
      refine lv_isub hx hb dX8_settles_32 ?_
      obtain ⟨k5, hf⟩ := ck_e hf
      refine rm_ald hx hb hK hB 16 rfl k5 dX8_settles_33 ?_
      refine lv_topi (fun y6 ey6 => ?_)
      have hf := sq_e hf y6 ey6
      obtain ⟨r7, σ8, hkr7, hf⟩ := bd_e hf
      refine rm_calliS (av := [.int y6]) (rest := []) hx hb hml hown hts hl.1 hK hA hB (cm_strength l D ad cy n σ y6 hkr7) (kw_strength hts ⟨Nat.le_of_ble_eq_true rfl, Nat.le_of_ble_eq_true rfl⟩) rfl rfl (lv_room (Nat.le_of_ble_eq_true rfl)) dX8_settles_34 (Nat.le_refl _) (Nat.le_refl _) (fun H locs hB => ?_)
      refine lv_iload_n hx hb dX8_settles_37 rfl (lv_at hl 1 rfl) ?_
      refine lv_icmp_lt (tgt := 67) hx hb dX8_settles_38 (by decide) (fun c9 => ?_) (fun c9 => ?_)
      · have hf := it_t hf c9
        obtain ⟨rfl, rfl⟩ := so_e hf
        exact rm_vret hx hb hr hlocks hK hB dX8_settles_67
      · have hf := it_f hf c9
        refine lv_aload_n hx hb dX8_settles_41 rfl (lv_at hl 0 rfl) ?_
        refine lv_dup hx hb dX8_settles_42 rfl ?_
        refine rm_get hx hb hts inM hown hK hB 23 (Nat.le_of_ble_eq_true rfl) qf_136 rfl dX8_settles_43 ?_
        refine lv_iconst (v := 1) hx hb dX8_settles_46 (by decide) ?_
        refine lv_isub hx hb dX8_settles_47 ?_
        refine rm_puti hx hb hts inM hown hK hB 23 (Nat.le_of_ble_eq_true rfl) qf_136 (ms_23 _ _ _) rfl pd_23 rfl rfl dX8_settles_48 (fun σ10 eσ10 H locs hB => ?_)
        have hf := sq_e hf σ10 eσ10
        refine lv_aload_n hx hb dX8_settles_51 rfl (lv_at hl 0 rfl) ?_
        refine lv_aload_n hx hb dX8_settles_52 rfl (lv_at hl 0 rfl) ?_
        refine rm_get hx hb hts inM hown hK hB 19 (Nat.le_of_ble_eq_true rfl) qf_59 rfl dX8_settles_53 ?_
        refine lv_aload_n hx hb dX8_settles_56 rfl (lv_at hl 0 rfl) ?_
        refine rm_get hx hb hts inM hown hK hB 23 (Nat.le_of_ble_eq_true rfl) qf_136 rfl dX8_settles_57 ?_
        obtain ⟨k11, hf⟩ := ck_e hf
        refine rm_ald hx hb hK hB 16 rfl k11 dX8_settles_60 ?_
        refine lv_topi (fun y12 ey12 => ?_)
        have hf := sq_e hf y12 ey12
        obtain ⟨r13, σ14, hkr13, hf⟩ := bd_e hf
        refine rm_callvV (av := [.int y12]) (rest := []) hx hb hml hown hts hl.1 hK hA hB (cm_emits l D ad cy n σ10 y12 hkr13) (kw_emits hts ⟨Nat.le_of_ble_eq_true rfl, Nat.le_of_ble_eq_true rfl⟩) rfl rfl (lv_room (Nat.le_of_ble_eq_true rfl)) dX8_settles_61 (Nat.le_refl _) (Nat.le_refl _) (fun H locs hB => ?_)
        refine lv_goto (tgt := 0) hx hb dX8_settles_64 (by decide) ?_
        exact hK0 σ14 x1 _ _ _ hB (lv_sub hl [0, 1] rfl) hf
def lm_settles_0 (n : Nat) : Nat → MS → Int32 → Option (Int32 × MS)
  | 0 => fun _ _ => none
  | k + 1 => bm_settles_0 n (lm_settles_0 n k)
theorem tlm_settles_0 {p : Program} {l : Launch} {e : Env} {s : State} {m : MethodId} {args : Array Value} {below : List Frame} {meth : Method} {c : Code} {D : va_G} {A : Nat → Prop} {ad : Nat → Nat} {cy : ClassId} {r0 : Int32} {σ0 : MS} (hc : cxB RX8 wsM cX8_settles 2 none p s m args meth c) (hK : va_K D vwCl [(cy, .int)] s) (hA : ∀ q, s.heap.size ≤ q → A q) (n : Nat) : ∀ (k : Nat) (σ : MS) (x1 : Int32) (H : Heap) (locs : List Loc) (ls : Array Slot), mB D ad cy A s.heap σ H locs → lv_has ls 2 [(0, .ref (ad 0)), (1, .int x1)] → lm_settles_0 n k σ x1 = some (r0, σ0) → W p l e rm_settles s m args below meth c H locs 0 0 (MQ below (mQv D ad cy A σ0) args s 0 0 A) (F0 m 0 ls []) := by
  intro k
  induction k with
  | zero =>
    intro σ x1 H locs ls hB hl hf
    have hf : (none : Option (Int32 × MS)) = some (r0, σ0) := hf
    cases hf
  | succ k ih =>
    intro σ x1 H locs ls hB hl hf
    exact tbm_settles_0 hc hK hA n (lm_settles_0 n k) ih σ x1 hB hl hf
def fm_settles (n : Nat) (σ : MS) (x1 : Int32) : Option (Int32 × MS) := lm_settles_0 n n σ x1
theorem cm_settles (l : Launch) (D : va_G) (ad : Nat → Nat) (cy : ClassId) (n : Nat) (σ : MS) (x1 : Int32) {r0 : Int32} {σ0 : MS} (hf : fm_settles n σ x1 = some (r0, σ0)) : mMv l yX8_settles wn_settles rm_settles D ad cy [.ref (ad 0), .int x1] σ σ0 :=
  rm_metv (ret := none) (by decide) rfl (Nat.le_of_ble_eq_true rfl) (fun p e s m below meth c A ls hc hK hA hB hl => tlm_settles_0 hc hK hA n n σ x1 _ _ _ hB hl hf)
theorem kw_settles {R : Room} {s : State} {args : Array Value} (hts : ∀ w ∈ wsM, w.before args s = true) (hR : rm_settles.frames + 1 ≤ R.frames ∧ 8 + (2 + 11) + rm_settles.locals ≤ R.locals) : CallW R s args RX8 RX8 152 yX8_settles cX8_settles 2 none wn_settles rm_settles 0 0 1 := cwV 1 hts (gM_v qw_90 qw_91 qw_92 qw_37 qw_77) rfl rfl rfl (by decide +kernel) hR
/-! isField -/
abbrev rm_isField : Room := { frames := 0, cells := 0, slots := 0, locals := 0 }
abbrev wn_isField : List Cond := .code yX8_isField cX8_isField 1 (some .boolean) :: wsM
def fm_isField (n : Nat) (σ : MS) (x0 : Int32) : Option (Int32 × MS) := if (x0 = 108) then (some (1, σ)) else (if (x0 = 116) then (some (1, σ)) else (if (x0 = 119) then (some (1, σ)) else (if (x0 = 100) then (some (1, σ)) else (if (x0 = 101) then (some (1, σ)) else (if (x0 = 98) then (some (1, σ)) else (if (x0 = 102) then (some (1, σ)) else (if (x0 = 107) then (some (1, σ)) else (some (0, σ)))))))))
set_option maxRecDepth 100000 in
set_option maxHeartbeats 4000000 in
theorem tbm_isField_0 {p : Program} {l : Launch} {e : Env} {s : State} {m : MethodId} {args : Array Value} {below : List Frame} {meth : Method} {c : Code} {D : va_G} {A : Nat → Prop} {ad : Nat → Nat} {cy : ClassId} {r0 : Int32} {σ0 : MS} (hc : cxB RX8 wsM cX8_isField 1 (some .boolean) p s m args meth c) (hK : va_K D vwCl [(cy, .int)] s) (hA : ∀ q, s.heap.size ≤ q → A q) (n : Nat) (σ : MS) (x0 : Int32) {H : Heap} {locs : List Loc} {ls : Array Slot} (hB : mB D ad cy A s.heap σ H locs) (hl : lv_has ls 1 [(0, .int x0)]) (hf : fm_isField n σ x0 = some (r0, σ0)) : W p l e rm_isField s m args below meth c H locs 0 0 (MQ below (mQi D ad cy A r0 σ0) args s 0 0 A) (F0 m 0 ls []) := by
  obtain ⟨hx, hb, hml, hown, hts, hr, hlocks⟩ := id hc
  unfold fm_isField at hf
  refine lv_iload_n hx hb dX8_isField_0 rfl (lv_at hl 0 rfl) ?_
  refine lv_bipush (v := 108) hx hb dX8_isField_1 (by decide) ?_
  refine lv_icmp_eq (tgt := 48) hx hb dX8_isField_3 (by decide) (fun c1 => ?_) (fun c1 => ?_)
  · have hf := it_t hf c1
    refine lv_iconst (v := 1) hx hb dX8_isField_48 (by decide) ?_
    refine lv_goto (tgt := 53) hx hb dX8_isField_49 (by decide) ?_
    obtain ⟨rfl, rfl⟩ := so_e hf
    exact rm_zret hx hb hr hlocks rfl hK hB dX8_isField_53
  · have hf := it_f hf c1
    refine lv_iload_n hx hb dX8_isField_6 rfl (lv_at hl 0 rfl) ?_
    refine lv_bipush (v := 116) hx hb dX8_isField_7 (by decide) ?_
    refine lv_icmp_eq (tgt := 48) hx hb dX8_isField_9 (by decide) (fun c2 => ?_) (fun c2 => ?_)
    · have hf := it_t hf c2
      refine lv_iconst (v := 1) hx hb dX8_isField_48 (by decide) ?_
      refine lv_goto (tgt := 53) hx hb dX8_isField_49 (by decide) ?_
      obtain ⟨rfl, rfl⟩ := so_e hf
      exact rm_zret hx hb hr hlocks rfl hK hB dX8_isField_53
    · have hf := it_f hf c2
      refine lv_iload_n hx hb dX8_isField_12 rfl (lv_at hl 0 rfl) ?_
      refine lv_bipush (v := 119) hx hb dX8_isField_13 (by decide) ?_
      refine lv_icmp_eq (tgt := 48) hx hb dX8_isField_15 (by decide) (fun c3 => ?_) (fun c3 => ?_)
      · have hf := it_t hf c3
        refine lv_iconst (v := 1) hx hb dX8_isField_48 (by decide) ?_
        refine lv_goto (tgt := 53) hx hb dX8_isField_49 (by decide) ?_
        obtain ⟨rfl, rfl⟩ := so_e hf
        exact rm_zret hx hb hr hlocks rfl hK hB dX8_isField_53
      · have hf := it_f hf c3
        refine lv_iload_n hx hb dX8_isField_18 rfl (lv_at hl 0 rfl) ?_
        refine lv_bipush (v := 100) hx hb dX8_isField_19 (by decide) ?_
        refine lv_icmp_eq (tgt := 48) hx hb dX8_isField_21 (by decide) (fun c4 => ?_) (fun c4 => ?_)
        · have hf := it_t hf c4
          refine lv_iconst (v := 1) hx hb dX8_isField_48 (by decide) ?_
          refine lv_goto (tgt := 53) hx hb dX8_isField_49 (by decide) ?_
          obtain ⟨rfl, rfl⟩ := so_e hf
          exact rm_zret hx hb hr hlocks rfl hK hB dX8_isField_53
        · have hf := it_f hf c4
          refine lv_iload_n hx hb dX8_isField_24 rfl (lv_at hl 0 rfl) ?_
          refine lv_bipush (v := 101) hx hb dX8_isField_25 (by decide) ?_
          refine lv_icmp_eq (tgt := 48) hx hb dX8_isField_27 (by decide) (fun c5 => ?_) (fun c5 => ?_)
          · have hf := it_t hf c5
            refine lv_iconst (v := 1) hx hb dX8_isField_48 (by decide) ?_
            refine lv_goto (tgt := 53) hx hb dX8_isField_49 (by decide) ?_
            obtain ⟨rfl, rfl⟩ := so_e hf
            exact rm_zret hx hb hr hlocks rfl hK hB dX8_isField_53
          · have hf := it_f hf c5
            refine lv_iload_n hx hb dX8_isField_30 rfl (lv_at hl 0 rfl) ?_
            refine lv_bipush (v := 98) hx hb dX8_isField_31 (by decide) ?_
            refine lv_icmp_eq (tgt := 48) hx hb dX8_isField_33 (by decide) (fun c6 => ?_) (fun c6 => ?_)
            · have hf := it_t hf c6
              refine lv_iconst (v := 1) hx hb dX8_isField_48 (by decide) ?_
              refine lv_goto (tgt := 53) hx hb dX8_isField_49 (by decide) ?_
              obtain ⟨rfl, rfl⟩ := so_e hf
              exact rm_zret hx hb hr hlocks rfl hK hB dX8_isField_53
            · have hf := it_f hf c6
              refine lv_iload_n hx hb dX8_isField_36 rfl (lv_at hl 0 rfl) ?_
              refine lv_bipush (v := 102) hx hb dX8_isField_37 (by decide) ?_
              refine lv_icmp_eq (tgt := 48) hx hb dX8_isField_39 (by decide) (fun c7 => ?_) (fun c7 => ?_)
              · have hf := it_t hf c7
                refine lv_iconst (v := 1) hx hb dX8_isField_48 (by decide) ?_
                refine lv_goto (tgt := 53) hx hb dX8_isField_49 (by decide) ?_
                obtain ⟨rfl, rfl⟩ := so_e hf
                exact rm_zret hx hb hr hlocks rfl hK hB dX8_isField_53
              · have hf := it_f hf c7
                refine lv_iload_n hx hb dX8_isField_42 rfl (lv_at hl 0 rfl) ?_
                refine lv_bipush (v := 107) hx hb dX8_isField_43 (by decide) ?_
                refine lv_icmp_ne (tgt := 52) hx hb dX8_isField_45 (by decide) (fun c8 => ?_) (fun c8 => ?_)
                · have hf := it_f hf c8
                  refine lv_iconst (v := 0) hx hb dX8_isField_52 (by decide) ?_
                  obtain ⟨rfl, rfl⟩ := so_e hf
                  exact rm_zret hx hb hr hlocks rfl hK hB dX8_isField_53
                · have hf := it_t hf c8
                  refine lv_iconst (v := 1) hx hb dX8_isField_48 (by decide) ?_
                  refine lv_goto (tgt := 53) hx hb dX8_isField_49 (by decide) ?_
                  obtain ⟨rfl, rfl⟩ := so_e hf
                  exact rm_zret hx hb hr hlocks rfl hK hB dX8_isField_53
theorem cm_isField (l : Launch) (D : va_G) (ad : Nat → Nat) (cy : ClassId) (n : Nat) (σ : MS) (x0 : Int32) {r0 : Int32} {σ0 : MS} (hf : fm_isField n σ x0 = some (r0, σ0)) : mMi l yX8_isField wn_isField rm_isField D ad cy [.int x0] σ r0 σ0 :=
  rm_meti (ret := (some .boolean)) (by decide) rfl (Nat.le_of_ble_eq_true rfl) (fun p e s m below meth c A ls hc hK hA hB hl => tbm_isField_0 hc hK hA n σ x0 hB hl hf)
theorem kw_isField {R : Room} {s : State} {args : Array Value} (hts : ∀ w ∈ wsM, w.before args s = true) (hR : rm_isField.frames + 1 ≤ R.frames ∧ 8 + (1 + 11) + rm_isField.locals ≤ R.locals) : CallB R s args RX8 146 yX8_isField cX8_isField 1 (some .boolean) wn_isField rm_isField 0 0 1 ∧ (Cond.static yX8_isField).before args s = true := va_cwS 1 hts (gM_s qw_86 qw_87 qw_37 qw_84) rfl rfl rfl (by decide +kernel) hR
/-! wanted -/
abbrev rm_wanted : Room := { frames := 3, cells := 0, slots := 0, locals := 64 }
abbrev wn_wanted : List Cond := .code yX8_wanted cX8_wanted 2 (some .int) :: wsM
def fm_wanted (n : Nat) (σ : MS) : Option (Int32 × MS) := bd (fm_sign n σ) (fun r1 σ2 => bd (fm_isDigit n σ2) (fun r3 σ4 => if (r3 = 0) then (bd (fm_isField n σ4 r1) (fun r6 σ7 => if (r6 = 0) then (if (r1 = 40) then (if ((σ7.1 0 24) = 4) then (some ((-1), σ7)) else (ck (ib (σ7.1 0 23) 24) (sq (mp σ7 16 (Int32.toNatClampNeg (σ7.1 0 23)) r1) (fun σ12 => sq (mp σ12 0 23 ((σ12.1 0 23) + 1)) (fun σ13 => sq (mp σ13 0 24 ((σ13.1 0 24) + 1)) (fun σ14 => sq (mp σ14 0 10 ((σ14.1 0 10) + 1)) (fun σ15 => some (0, σ15)))))))) else (some ((-1), σ7))) else (bd (fm_emits n σ7 r1) (fun _ σ17 => sq (mp σ17 0 10 ((σ17.1 0 10) + 1)) (fun σ18 => some (1, σ18)))))) else (bd (fm_number n σ4) (fun r19 σ20 => bd (fm_emits n σ20 (1000 + r19)) (fun _ σ22 => some (1, σ22))))))
set_option maxRecDepth 100000 in
set_option maxHeartbeats 4000000 in
theorem tbm_wanted_0 {p : Program} {l : Launch} {e : Env} {s : State} {m : MethodId} {args : Array Value} {below : List Frame} {meth : Method} {c : Code} {D : va_G} {A : Nat → Prop} {ad : Nat → Nat} {cy : ClassId} {r0 : Int32} {σ0 : MS} (hc : cxB RX8 wsM cX8_wanted 2 (some .int) p s m args meth c) (hK : va_K D vwCl [(cy, .int)] s) (hA : ∀ q, s.heap.size ≤ q → A q) (n : Nat) (σ : MS) {H : Heap} {locs : List Loc} {ls : Array Slot} (hB : mB D ad cy A s.heap σ H locs) (hl : lv_has ls 2 [(0, .ref (ad 0))]) (hf : fm_wanted n σ = some (r0, σ0)) : W p l e rm_wanted s m args below meth c H locs 0 0 (MQ below (mQi D ad cy A r0 σ0) args s 0 0 A) (F0 m 0 ls []) := by
  obtain ⟨hx, hb, hml, hown, hts, hr, hlocks⟩ := id hc
  unfold fm_wanted at hf
  refine lv_aload_n hx hb dX8_wanted_0 rfl (lv_at hl 0 rfl) ?_
  obtain ⟨r1, σ2, hkr1, hf⟩ := bd_e hf
  refine rm_calliV (av := []) (rest := []) hx hb hml hown hts hl.1 hK hA hB (cm_sign l D ad cy n σ hkr1) (kw_sign hts ⟨Nat.le_of_ble_eq_true rfl, Nat.le_of_ble_eq_true rfl⟩) rfl rfl (lv_room (Nat.le_of_ble_eq_true rfl)) dX8_wanted_1 (Nat.le_refl _) (Nat.le_refl _) (fun H locs hB => ?_)
  refine lv_istore_n (lv' := [(1, .int r1), (0, .ref (ad 0))]) hx hb dX8_wanted_4 rfl hl (by decide) rfl (fun ls hl => ?_)
  refine lv_aload_n hx hb dX8_wanted_5 rfl (lv_at hl 1 rfl) ?_
  obtain ⟨r3, σ4, hkr3, hf⟩ := bd_e hf
  refine rm_calliV (av := []) (rest := []) hx hb hml hown hts hl.1 hK hA hB (cm_isDigit l D ad cy n σ2 hkr3) (kw_isDigit hts ⟨Nat.le_of_ble_eq_true rfl, Nat.le_of_ble_eq_true rfl⟩) rfl rfl (lv_room (Nat.le_of_ble_eq_true rfl)) dX8_wanted_6 (Nat.le_refl _) (Nat.le_refl _) (fun H locs hB => ?_)
  refine lv_if_eq (tgt := 26) hx hb dX8_wanted_9 (by decide) (fun c5 => ?_) (fun c5 => ?_)
  · have hf := it_t hf c5
    refine lv_iload_n hx hb dX8_wanted_26 rfl (lv_at hl 0 rfl) ?_
    obtain ⟨r6, σ7, hkr6, hf⟩ := bd_e hf
    refine rm_calliS (av := [.int r1]) (rest := []) hx hb hml hown hts hl.1 hK hA hB (cm_isField l D ad cy n σ4 r1 hkr6) (kw_isField hts ⟨Nat.le_of_ble_eq_true rfl, Nat.le_of_ble_eq_true rfl⟩) rfl rfl (lv_room (Nat.le_of_ble_eq_true rfl)) dX8_wanted_27 (Nat.le_refl _) (Nat.le_refl _) (fun H locs hB => ?_)
    refine lv_if_eq (tgt := 50) hx hb dX8_wanted_30 (by decide) (fun c8 => ?_) (fun c8 => ?_)
    · have hf := it_t hf c8
      refine lv_iload_n hx hb dX8_wanted_50 rfl (lv_at hl 0 rfl) ?_
      refine lv_bipush (v := 40) hx hb dX8_wanted_51 (by decide) ?_
      refine lv_icmp_ne (tgt := 64) hx hb dX8_wanted_53 (by decide) (fun c9 => ?_) (fun c9 => ?_)
      · have hf := it_f hf c9
        refine lv_iconst (v := (-1)) hx hb dX8_wanted_64 (by decide) ?_
        obtain ⟨rfl, rfl⟩ := so_e hf
        exact rm_iret hx hb hr hlocks hK hB dX8_wanted_65
      · have hf := it_t hf c9
        refine lv_aload_n hx hb dX8_wanted_56 rfl (lv_at hl 1 rfl) ?_
        refine rm_get hx hb hts inM hown hK hB 24 (Nat.le_of_ble_eq_true rfl) qf_149 rfl dX8_wanted_57 ?_
        refine lv_iconst (v := 4) hx hb dX8_wanted_60 (by decide) ?_
        refine lv_icmp_ne (tgt := 66) hx hb dX8_wanted_61 (by decide) (fun c10 => ?_) (fun c10 => ?_)
        · have hf := it_f hf c10
          refine lv_aload_n hx hb dX8_wanted_66 rfl (lv_at hl 1 rfl) ?_
          refine rm_get hx hb hts inM hown hK hB 19 (Nat.le_of_ble_eq_true rfl) qf_59 rfl dX8_wanted_67 ?_
          refine lv_aload_n hx hb dX8_wanted_70 rfl (lv_at hl 1 rfl) ?_
          refine rm_get hx hb hts inM hown hK hB 23 (Nat.le_of_ble_eq_true rfl) qf_136 rfl dX8_wanted_71 ?_
          refine lv_iload_n hx hb dX8_wanted_74 rfl (lv_at hl 0 rfl) ?_
          obtain ⟨k11, hf⟩ := ck_e hf
          refine rm_ast hx hb hK hB 16 rfl (msa_16 _ _ _) k11 dX8_wanted_75 (fun σ12 eσ12 H locs hB => ?_)
          have hf := sq_e hf σ12 eσ12
          refine lv_aload_n hx hb dX8_wanted_76 rfl (lv_at hl 1 rfl) ?_
          refine lv_dup hx hb dX8_wanted_77 rfl ?_
          refine rm_get hx hb hts inM hown hK hB 23 (Nat.le_of_ble_eq_true rfl) qf_136 rfl dX8_wanted_78 ?_
          refine lv_iconst (v := 1) hx hb dX8_wanted_81 (by decide) ?_
          refine lv_iadd hx hb dX8_wanted_82 ?_
          refine rm_puti hx hb hts inM hown hK hB 23 (Nat.le_of_ble_eq_true rfl) qf_136 (ms_23 _ _ _) rfl pd_23 rfl rfl dX8_wanted_83 (fun σ13 eσ13 H locs hB => ?_)
          have hf := sq_e hf σ13 eσ13
          refine lv_aload_n hx hb dX8_wanted_86 rfl (lv_at hl 1 rfl) ?_
          refine lv_dup hx hb dX8_wanted_87 rfl ?_
          refine rm_get hx hb hts inM hown hK hB 24 (Nat.le_of_ble_eq_true rfl) qf_149 rfl dX8_wanted_88 ?_
          refine lv_iconst (v := 1) hx hb dX8_wanted_91 (by decide) ?_
          refine lv_iadd hx hb dX8_wanted_92 ?_
          refine rm_puti hx hb hts inM hown hK hB 24 (Nat.le_of_ble_eq_true rfl) qf_149 (ms_24 _ _ _) rfl pd_24 rfl rfl dX8_wanted_93 (fun σ14 eσ14 H locs hB => ?_)
          have hf := sq_e hf σ14 eσ14
          refine lv_aload_n hx hb dX8_wanted_96 rfl (lv_at hl 1 rfl) ?_
          refine lv_dup hx hb dX8_wanted_97 rfl ?_
          refine rm_get hx hb hts inM hown hK hB 10 (Nat.le_of_ble_eq_true rfl) qf_99 rfl dX8_wanted_98 ?_
          refine lv_iconst (v := 1) hx hb dX8_wanted_101 (by decide) ?_
          refine lv_iadd hx hb dX8_wanted_102 ?_
          refine rm_puti hx hb hts inM hown hK hB 10 (Nat.le_of_ble_eq_true rfl) qf_99 (ms_10 _ _ _) rfl pd_10 rfl rfl dX8_wanted_103 (fun σ15 eσ15 H locs hB => ?_)
          have hf := sq_e hf σ15 eσ15
          refine lv_iconst (v := 0) hx hb dX8_wanted_106 (by decide) ?_
          obtain ⟨rfl, rfl⟩ := so_e hf
          exact rm_iret hx hb hr hlocks hK hB dX8_wanted_107
        · have hf := it_t hf c10
          refine lv_iconst (v := (-1)) hx hb dX8_wanted_64 (by decide) ?_
          obtain ⟨rfl, rfl⟩ := so_e hf
          exact rm_iret hx hb hr hlocks hK hB dX8_wanted_65
    · have hf := it_f hf c8
      refine lv_aload_n hx hb dX8_wanted_33 rfl (lv_at hl 1 rfl) ?_
      refine lv_iload_n hx hb dX8_wanted_34 rfl (lv_at hl 0 rfl) ?_
      obtain ⟨r16, σ17, hkr16, hf⟩ := bd_e hf
      refine rm_callvV (av := [.int r1]) (rest := []) hx hb hml hown hts hl.1 hK hA hB (cm_emits l D ad cy n σ7 r1 hkr16) (kw_emits hts ⟨Nat.le_of_ble_eq_true rfl, Nat.le_of_ble_eq_true rfl⟩) rfl rfl (lv_room (Nat.le_of_ble_eq_true rfl)) dX8_wanted_35 (Nat.le_refl _) (Nat.le_refl _) (fun H locs hB => ?_)
      refine lv_aload_n hx hb dX8_wanted_38 rfl (lv_at hl 1 rfl) ?_
      refine lv_dup hx hb dX8_wanted_39 rfl ?_
      refine rm_get hx hb hts inM hown hK hB 10 (Nat.le_of_ble_eq_true rfl) qf_99 rfl dX8_wanted_40 ?_
      refine lv_iconst (v := 1) hx hb dX8_wanted_43 (by decide) ?_
      refine lv_iadd hx hb dX8_wanted_44 ?_
      refine rm_puti hx hb hts inM hown hK hB 10 (Nat.le_of_ble_eq_true rfl) qf_99 (ms_10 _ _ _) rfl pd_10 rfl rfl dX8_wanted_45 (fun σ18 eσ18 H locs hB => ?_)
      have hf := sq_e hf σ18 eσ18
      refine lv_iconst (v := 1) hx hb dX8_wanted_48 (by decide) ?_
      obtain ⟨rfl, rfl⟩ := so_e hf
      exact rm_iret hx hb hr hlocks hK hB dX8_wanted_49
  · have hf := it_f hf c5
    refine lv_aload_n hx hb dX8_wanted_12 rfl (lv_at hl 1 rfl) ?_
    refine lv_sipush (v := 1000) hx hb dX8_wanted_13 (by decide) ?_
    refine lv_aload_n hx hb dX8_wanted_16 rfl (lv_at hl 1 rfl) ?_
    obtain ⟨r19, σ20, hkr19, hf⟩ := bd_e hf
    refine rm_calliV (av := []) (rest := [.int 1000, .ref (ad 0)]) hx hb hml hown hts hl.1 hK hA hB (cm_number l D ad cy n σ4 hkr19) (kw_number hts ⟨Nat.le_of_ble_eq_true rfl, Nat.le_of_ble_eq_true rfl⟩) rfl rfl (lv_room (Nat.le_of_ble_eq_true rfl)) dX8_wanted_17 (Nat.le_refl _) (Nat.le_refl _) (fun H locs hB => ?_)
    refine lv_iadd hx hb dX8_wanted_20 ?_
    obtain ⟨r21, σ22, hkr21, hf⟩ := bd_e hf
    refine rm_callvV (av := [.int (1000 + r19)]) (rest := []) hx hb hml hown hts hl.1 hK hA hB (cm_emits l D ad cy n σ20 (1000 + r19) hkr21) (kw_emits hts ⟨Nat.le_of_ble_eq_true rfl, Nat.le_of_ble_eq_true rfl⟩) rfl rfl (lv_room (Nat.le_of_ble_eq_true rfl)) dX8_wanted_21 (Nat.le_refl _) (Nat.le_refl _) (fun H locs hB => ?_)
    refine lv_iconst (v := 1) hx hb dX8_wanted_24 (by decide) ?_
    obtain ⟨rfl, rfl⟩ := so_e hf
    exact rm_iret hx hb hr hlocks hK hB dX8_wanted_25
theorem cm_wanted (l : Launch) (D : va_G) (ad : Nat → Nat) (cy : ClassId) (n : Nat) (σ : MS) {r0 : Int32} {σ0 : MS} (hf : fm_wanted n σ = some (r0, σ0)) : mMi l yX8_wanted wn_wanted rm_wanted D ad cy [.ref (ad 0)] σ r0 σ0 :=
  rm_meti (ret := (some .int)) (by decide) rfl (Nat.le_of_ble_eq_true rfl) (fun p e s m below meth c A ls hc hK hA hB hl => tbm_wanted_0 hc hK hA n σ hB hl hf)
theorem kw_wanted {R : Room} {s : State} {args : Array Value} (hts : ∀ w ∈ wsM, w.before args s = true) (hR : rm_wanted.frames + 1 ≤ R.frames ∧ 8 + (2 + 11) + rm_wanted.locals ≤ R.locals) : CallW R s args RX8 RX8 158 yX8_wanted cX8_wanted 2 (some .int) wn_wanted rm_wanted 0 0 0 := cwV 0 hts (gM_v qw_94 qw_95 qw_96 qw_37 qw_88) rfl rfl rfl (by decide +kernel) hR
/-! behind -/
abbrev rm_behind : Room := { frames := 2, cells := 0, slots := 0, locals := 42 }
abbrev wn_behind : List Cond := .code yX8_behind cX8_behind 2 (some .int) :: wsM
def bm_behind_55 (n : Nat) (σ : MS) (x1 : Int32) : Option (Int32 × MS) := bd (fm_strength n σ x1) (fun r1 σ2 => if (r1 = 0) then (some ((-1), σ2)) else (bd (fm_strength n σ2 x1) (fun r4 σ5 => bd (fm_settles n σ5 r4) (fun _ σ7 => ck (ib (σ7.1 0 23) 24) (sq (mp σ7 16 (Int32.toNatClampNeg (σ7.1 0 23)) x1) (fun σ9 => sq (mp σ9 0 23 ((σ9.1 0 23) + 1)) (fun σ10 => sq (mp σ10 0 10 ((σ10.1 0 10) + 1)) (fun σ11 => some (1, σ11)))))))))
set_option maxRecDepth 100000 in
set_option maxHeartbeats 4000000 in
theorem tbm_behind_55 {p : Program} {l : Launch} {e : Env} {s : State} {m : MethodId} {args : Array Value} {below : List Frame} {meth : Method} {c : Code} {D : va_G} {A : Nat → Prop} {ad : Nat → Nat} {cy : ClassId} {r0 : Int32} {σ0 : MS} (hc : cxB RX8 wsM cX8_behind 2 (some .int) p s m args meth c) (hK : va_K D vwCl [(cy, .int)] s) (hA : ∀ q, s.heap.size ≤ q → A q) (n : Nat) (σ : MS) (x1 : Int32) {H : Heap} {locs : List Loc} {ls : Array Slot} (hB : mB D ad cy A s.heap σ H locs) (hl : lv_has ls 2 [(0, .ref (ad 0)), (1, .int x1)]) (hf : bm_behind_55 n σ x1 = some (r0, σ0)) : W p l e rm_behind s m args below meth c H locs 0 0 (MQ below (mQi D ad cy A r0 σ0) args s 0 0 A) (F0 m 55 ls []) := by
  obtain ⟨hx, hb, hml, hown, hts, hr, hlocks⟩ := id hc
  unfold bm_behind_55 at hf
  refine lv_iload_n hx hb dX8_behind_55 rfl (lv_at hl 1 rfl) ?_
  obtain ⟨r1, σ2, hkr1, hf⟩ := bd_e hf
  refine rm_calliS (av := [.int x1]) (rest := []) hx hb hml hown hts hl.1 hK hA hB (cm_strength l D ad cy n σ x1 hkr1) (kw_strength hts ⟨Nat.le_of_ble_eq_true rfl, Nat.le_of_ble_eq_true rfl⟩) rfl rfl (lv_room (Nat.le_of_ble_eq_true rfl)) dX8_behind_56 (Nat.le_refl _) (Nat.le_refl _) (fun H locs hB => ?_)
  refine lv_if_ne (tgt := 64) hx hb dX8_behind_59 (by decide) (fun c3 => ?_) (fun c3 => ?_)
  · have hf := it_f hf c3
    refine lv_aload_n hx hb dX8_behind_64 rfl (lv_at hl 0 rfl) ?_
    refine lv_iload_n hx hb dX8_behind_65 rfl (lv_at hl 1 rfl) ?_
    obtain ⟨r4, σ5, hkr4, hf⟩ := bd_e hf
    refine rm_calliS (av := [.int x1]) (rest := [.ref (ad 0)]) hx hb hml hown hts hl.1 hK hA hB (cm_strength l D ad cy n σ2 x1 hkr4) (kw_strength hts ⟨Nat.le_of_ble_eq_true rfl, Nat.le_of_ble_eq_true rfl⟩) rfl rfl (lv_room (Nat.le_of_ble_eq_true rfl)) dX8_behind_66 (Nat.le_refl _) (Nat.le_refl _) (fun H locs hB => ?_)
    obtain ⟨r6, σ7, hkr6, hf⟩ := bd_e hf
    refine rm_callvV (av := [.int r4]) (rest := []) hx hb hml hown hts hl.1 hK hA hB (cm_settles l D ad cy n σ5 r4 hkr6) (kw_settles hts ⟨Nat.le_of_ble_eq_true rfl, Nat.le_of_ble_eq_true rfl⟩) rfl rfl (lv_room (Nat.le_of_ble_eq_true rfl)) dX8_behind_69 (Nat.le_refl _) (Nat.le_refl _) (fun H locs hB => ?_)
    refine lv_aload_n hx hb dX8_behind_72 rfl (lv_at hl 0 rfl) ?_
    refine rm_get hx hb hts inM hown hK hB 19 (Nat.le_of_ble_eq_true rfl) qf_59 rfl dX8_behind_73 ?_
    refine lv_aload_n hx hb dX8_behind_76 rfl (lv_at hl 0 rfl) ?_
    refine rm_get hx hb hts inM hown hK hB 23 (Nat.le_of_ble_eq_true rfl) qf_136 rfl dX8_behind_77 ?_
    refine lv_iload_n hx hb dX8_behind_80 rfl (lv_at hl 1 rfl) ?_
    obtain ⟨k8, hf⟩ := ck_e hf
    refine rm_ast hx hb hK hB 16 rfl (msa_16 _ _ _) k8 dX8_behind_81 (fun σ9 eσ9 H locs hB => ?_)
    have hf := sq_e hf σ9 eσ9
    refine lv_aload_n hx hb dX8_behind_82 rfl (lv_at hl 0 rfl) ?_
    refine lv_dup hx hb dX8_behind_83 rfl ?_
    refine rm_get hx hb hts inM hown hK hB 23 (Nat.le_of_ble_eq_true rfl) qf_136 rfl dX8_behind_84 ?_
    refine lv_iconst (v := 1) hx hb dX8_behind_87 (by decide) ?_
    refine lv_iadd hx hb dX8_behind_88 ?_
    refine rm_puti hx hb hts inM hown hK hB 23 (Nat.le_of_ble_eq_true rfl) qf_136 (ms_23 _ _ _) rfl pd_23 rfl rfl dX8_behind_89 (fun σ10 eσ10 H locs hB => ?_)
    have hf := sq_e hf σ10 eσ10
    refine lv_aload_n hx hb dX8_behind_92 rfl (lv_at hl 0 rfl) ?_
    refine lv_dup hx hb dX8_behind_93 rfl ?_
    refine rm_get hx hb hts inM hown hK hB 10 (Nat.le_of_ble_eq_true rfl) qf_99 rfl dX8_behind_94 ?_
    refine lv_iconst (v := 1) hx hb dX8_behind_97 (by decide) ?_
    refine lv_iadd hx hb dX8_behind_98 ?_
    refine rm_puti hx hb hts inM hown hK hB 10 (Nat.le_of_ble_eq_true rfl) qf_99 (ms_10 _ _ _) rfl pd_10 rfl rfl dX8_behind_99 (fun σ11 eσ11 H locs hB => ?_)
    have hf := sq_e hf σ11 eσ11
    refine lv_iconst (v := 1) hx hb dX8_behind_102 (by decide) ?_
    obtain ⟨rfl, rfl⟩ := so_e hf
    exact rm_iret hx hb hr hlocks hK hB dX8_behind_103
  · have hf := it_t hf c3
    refine lv_iconst (v := (-1)) hx hb dX8_behind_62 (by decide) ?_
    obtain ⟨rfl, rfl⟩ := so_e hf
    exact rm_iret hx hb hr hlocks hK hB dX8_behind_63
def fm_behind (n : Nat) (σ : MS) : Option (Int32 × MS) := bd (fm_sign n σ) (fun r1 σ2 => if (r1 = 41) then (if ((σ2.1 0 24) ≤ 0) then (bm_behind_55 n σ2 r1) else (bd (fm_settles n σ2 0) (fun _ σ6 => sq (mp σ6 0 23 ((σ6.1 0 23) - 1)) (fun σ7 => sq (mp σ7 0 24 ((σ7.1 0 24) - 1)) (fun σ8 => sq (mp σ8 0 10 ((σ8.1 0 10) + 1)) (fun σ9 => some (0, σ9))))))) else (bm_behind_55 n σ2 r1))
set_option maxRecDepth 100000 in
set_option maxHeartbeats 4000000 in
theorem tbm_behind_0 {p : Program} {l : Launch} {e : Env} {s : State} {m : MethodId} {args : Array Value} {below : List Frame} {meth : Method} {c : Code} {D : va_G} {A : Nat → Prop} {ad : Nat → Nat} {cy : ClassId} {r0 : Int32} {σ0 : MS} (hc : cxB RX8 wsM cX8_behind 2 (some .int) p s m args meth c) (hK : va_K D vwCl [(cy, .int)] s) (hA : ∀ q, s.heap.size ≤ q → A q) (n : Nat) (σ : MS) {H : Heap} {locs : List Loc} {ls : Array Slot} (hB : mB D ad cy A s.heap σ H locs) (hl : lv_has ls 2 [(0, .ref (ad 0))]) (hf : fm_behind n σ = some (r0, σ0)) : W p l e rm_behind s m args below meth c H locs 0 0 (MQ below (mQi D ad cy A r0 σ0) args s 0 0 A) (F0 m 0 ls []) := by
  obtain ⟨hx, hb, hml, hown, hts, hr, hlocks⟩ := id hc
  unfold fm_behind at hf
  refine lv_aload_n hx hb dX8_behind_0 rfl (lv_at hl 0 rfl) ?_
  obtain ⟨r1, σ2, hkr1, hf⟩ := bd_e hf
  refine rm_calliV (av := []) (rest := []) hx hb hml hown hts hl.1 hK hA hB (cm_sign l D ad cy n σ hkr1) (kw_sign hts ⟨Nat.le_of_ble_eq_true rfl, Nat.le_of_ble_eq_true rfl⟩) rfl rfl (lv_room (Nat.le_of_ble_eq_true rfl)) dX8_behind_1 (Nat.le_refl _) (Nat.le_refl _) (fun H locs hB => ?_)
  refine lv_istore_n (lv' := [(1, .int r1), (0, .ref (ad 0))]) hx hb dX8_behind_4 rfl hl (by decide) rfl (fun ls hl => ?_)
  refine lv_iload_n hx hb dX8_behind_5 rfl (lv_at hl 0 rfl) ?_
  refine lv_bipush (v := 41) hx hb dX8_behind_6 (by decide) ?_
  refine lv_icmp_ne (tgt := 55) hx hb dX8_behind_8 (by decide) (fun c3 => ?_) (fun c3 => ?_)
  · have hf := it_f hf c3
    exact tbm_behind_55 hc hK hA n σ2 r1 hB (lv_sub hl [1, 0] rfl) hf
  · have hf := it_t hf c3
    refine lv_aload_n hx hb dX8_behind_11 rfl (lv_at hl 1 rfl) ?_
    refine rm_get hx hb hts inM hown hK hB 24 (Nat.le_of_ble_eq_true rfl) qf_149 rfl dX8_behind_12 ?_
    refine lv_if_le (tgt := 55) hx hb dX8_behind_15 (by decide) (fun c4 => ?_) (fun c4 => ?_)
    · have hf := it_t hf c4
      exact tbm_behind_55 hc hK hA n σ2 r1 hB (lv_sub hl [1, 0] rfl) hf
    · have hf := it_f hf c4
      refine lv_aload_n hx hb dX8_behind_18 rfl (lv_at hl 1 rfl) ?_
      refine lv_iconst (v := 0) hx hb dX8_behind_19 (by decide) ?_
      obtain ⟨r5, σ6, hkr5, hf⟩ := bd_e hf
      refine rm_callvV (av := [.int 0]) (rest := []) hx hb hml hown hts hl.1 hK hA hB (cm_settles l D ad cy n σ2 0 hkr5) (kw_settles hts ⟨Nat.le_of_ble_eq_true rfl, Nat.le_of_ble_eq_true rfl⟩) rfl rfl (lv_room (Nat.le_of_ble_eq_true rfl)) dX8_behind_20 (Nat.le_refl _) (Nat.le_refl _) (fun H locs hB => ?_)
      refine lv_aload_n hx hb dX8_behind_23 rfl (lv_at hl 1 rfl) ?_
      refine lv_dup hx hb dX8_behind_24 rfl ?_
      refine rm_get hx hb hts inM hown hK hB 23 (Nat.le_of_ble_eq_true rfl) qf_136 rfl dX8_behind_25 ?_
      refine lv_iconst (v := 1) hx hb dX8_behind_28 (by decide) ?_
      refine lv_isub hx hb dX8_behind_29 ?_
      refine rm_puti hx hb hts inM hown hK hB 23 (Nat.le_of_ble_eq_true rfl) qf_136 (ms_23 _ _ _) rfl pd_23 rfl rfl dX8_behind_30 (fun σ7 eσ7 H locs hB => ?_)
      have hf := sq_e hf σ7 eσ7
      refine lv_aload_n hx hb dX8_behind_33 rfl (lv_at hl 1 rfl) ?_
      refine lv_dup hx hb dX8_behind_34 rfl ?_
      refine rm_get hx hb hts inM hown hK hB 24 (Nat.le_of_ble_eq_true rfl) qf_149 rfl dX8_behind_35 ?_
      refine lv_iconst (v := 1) hx hb dX8_behind_38 (by decide) ?_
      refine lv_isub hx hb dX8_behind_39 ?_
      refine rm_puti hx hb hts inM hown hK hB 24 (Nat.le_of_ble_eq_true rfl) qf_149 (ms_24 _ _ _) rfl pd_24 rfl rfl dX8_behind_40 (fun σ8 eσ8 H locs hB => ?_)
      have hf := sq_e hf σ8 eσ8
      refine lv_aload_n hx hb dX8_behind_43 rfl (lv_at hl 1 rfl) ?_
      refine lv_dup hx hb dX8_behind_44 rfl ?_
      refine rm_get hx hb hts inM hown hK hB 10 (Nat.le_of_ble_eq_true rfl) qf_99 rfl dX8_behind_45 ?_
      refine lv_iconst (v := 1) hx hb dX8_behind_48 (by decide) ?_
      refine lv_iadd hx hb dX8_behind_49 ?_
      refine rm_puti hx hb hts inM hown hK hB 10 (Nat.le_of_ble_eq_true rfl) qf_99 (ms_10 _ _ _) rfl pd_10 rfl rfl dX8_behind_50 (fun σ9 eσ9 H locs hB => ?_)
      have hf := sq_e hf σ9 eσ9
      refine lv_iconst (v := 0) hx hb dX8_behind_53 (by decide) ?_
      obtain ⟨rfl, rfl⟩ := so_e hf
      exact rm_iret hx hb hr hlocks hK hB dX8_behind_54
theorem cm_behind (l : Launch) (D : va_G) (ad : Nat → Nat) (cy : ClassId) (n : Nat) (σ : MS) {r0 : Int32} {σ0 : MS} (hf : fm_behind n σ = some (r0, σ0)) : mMi l yX8_behind wn_behind rm_behind D ad cy [.ref (ad 0)] σ r0 σ0 :=
  rm_meti (ret := (some .int)) (by decide) rfl (Nat.le_of_ble_eq_true rfl) (fun p e s m below meth c A ls hc hK hA hB hl => tbm_behind_0 hc hK hA n σ hB hl hf)
theorem kw_behind {R : Room} {s : State} {args : Array Value} (hts : ∀ w ∈ wsM, w.before args s = true) (hR : rm_behind.frames + 1 ≤ R.frames ∧ 8 + (2 + 11) + rm_behind.locals ≤ R.locals) : CallW R s args RX8 RX8 161 yX8_behind cX8_behind 2 (some .int) wn_behind rm_behind 0 0 0 := cwV 0 hts (gM_v qw_97 qw_98 qw_99 qw_37 qw_89) rfl rfl rfl (by decide +kernel) hR
