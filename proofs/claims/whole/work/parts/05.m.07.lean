/-! aheadOf -/
abbrev rm_aheadOf : Room := { frames := 6, cells := 0, slots := 0, locals := 146 }
abbrev wn_aheadOf : List Cond := .code yX8_aheadOf cX8_aheadOf 4 (some .int) :: wsM
def bm_aheadOf_45 (n : Nat) (σ : MS) (x1 : Int32) (x2 : Int32) (t0 : Int32) (t1 : Int32) (t2 : Int32) : Option (Int32 × MS) := bd (fm_begins n σ t2 t1 t0 x2) (fun _ σ2 => if (x1 = 1) then (sq (mp σ2 0 30 (1 - (σ2.1 0 12))) (fun σ6 => bd (fm_lastsOn n σ6 1) (fun r7 σ8 => some (r7, σ8)))) else (bd (fm_lastsOn n σ2 1) (fun r4 σ5 => some (r4, σ5))))
set_option maxRecDepth 100000 in
set_option maxHeartbeats 4000000 in
theorem tbm_aheadOf_45 {p : Program} {l : Launch} {e : Env} {s : State} {m : MethodId} {args : Array Value} {below : List Frame} {meth : Method} {c : Code} {D : va_G} {A : Nat → Prop} {ad : Nat → Nat} {cy : ClassId} {r0 : Int32} {σ0 : MS} (hc : cxB RX8 wsM cX8_aheadOf 4 (some .int) p s m args meth c) (hK : va_K D vwCl [(cy, .int)] s) (hA : ∀ q, s.heap.size ≤ q → A q) (n : Nat) (σ : MS) (x1 : Int32) (x2 : Int32) (t0 : Int32) (t1 : Int32) (t2 : Int32) {H : Heap} {locs : List Loc} {ls : Array Slot} (hB : mB D ad cy A s.heap σ H locs) (hl : lv_has ls 4 [(0, .ref (ad 0)), (1, .int x1), (2, .int x2)]) (hf : bm_aheadOf_45 n σ x1 x2 t0 t1 t2 = some (r0, σ0)) : W p l e rm_aheadOf s m args below meth c H locs 0 0 (MQ below (mQi D ad cy A r0 σ0) args s 0 0 A) (F0 m 45 ls [.int t0, .int t1, .int t2, .ref (ad 0)]) := by
  obtain ⟨hx, hb, hml, hown, hts, hr, hlocks⟩ := id hc
  unfold bm_aheadOf_45 at hf
  refine lv_iload_n hx hb dX8_aheadOf_45 rfl (lv_at hl 2 rfl) ?_
  obtain ⟨r1, σ2, hkr1, hf⟩ := bd_e hf
  refine rm_callvV (av := [.int t2, .int t1, .int t0, .int x2]) (rest := []) hx hb hml hown hts hl.1 hK hA hB (cm_begins l D ad cy n σ t2 t1 t0 x2 hkr1) (kw_begins hts ⟨Nat.le_of_ble_eq_true rfl, Nat.le_of_ble_eq_true rfl⟩) rfl rfl (lv_room (Nat.le_of_ble_eq_true rfl)) dX8_aheadOf_46 (Nat.le_refl _) (Nat.le_refl _) (fun H locs hB => ?_)
  refine lv_iload_n hx hb dX8_aheadOf_49 rfl (lv_at hl 1 rfl) ?_
  refine lv_iconst (v := 1) hx hb dX8_aheadOf_50 (by decide) ?_
  refine lv_icmp_ne (tgt := 64) hx hb dX8_aheadOf_51 (by decide) (fun c3 => ?_) (fun c3 => ?_)
  · have hf := it_f hf c3
    refine lv_aload_n hx hb dX8_aheadOf_64 rfl (lv_at hl 0 rfl) ?_
    refine lv_iconst (v := 1) hx hb dX8_aheadOf_65 (by decide) ?_
    obtain ⟨r4, σ5, hkr4, hf⟩ := bd_e hf
    refine rm_calliV (av := [.int 1]) (rest := []) hx hb hml hown hts hl.1 hK hA hB (cm_lastsOn l D ad cy n σ2 1 hkr4) (kw_lastsOn hts ⟨Nat.le_of_ble_eq_true rfl, Nat.le_of_ble_eq_true rfl⟩) rfl rfl (lv_room (Nat.le_of_ble_eq_true rfl)) dX8_aheadOf_66 (Nat.le_refl _) (Nat.le_refl _) (fun H locs hB => ?_)
    obtain ⟨rfl, rfl⟩ := so_e hf
    exact rm_iret hx hb hr hlocks hK hB dX8_aheadOf_69
  · have hf := it_t hf c3
    refine lv_aload_n hx hb dX8_aheadOf_54 rfl (lv_at hl 0 rfl) ?_
    refine lv_iconst (v := 1) hx hb dX8_aheadOf_55 (by decide) ?_
    refine lv_aload_n hx hb dX8_aheadOf_56 rfl (lv_at hl 0 rfl) ?_
    refine rm_get hx hb hts inM hown hK hB 12 (Nat.le_of_ble_eq_true rfl) qf_37 rfl dX8_aheadOf_57 ?_
    refine lv_isub hx hb dX8_aheadOf_60 ?_
    refine rm_puti hx hb hts inM hown hK hB 30 (Nat.le_of_ble_eq_true rfl) qf_194 (ms_30 _ _ _) rfl pd_30 rfl rfl dX8_aheadOf_61 (fun σ6 eσ6 H locs hB => ?_)
    have hf := sq_e hf σ6 eσ6
    refine lv_aload_n hx hb dX8_aheadOf_64 rfl (lv_at hl 0 rfl) ?_
    refine lv_iconst (v := 1) hx hb dX8_aheadOf_65 (by decide) ?_
    obtain ⟨r7, σ8, hkr7, hf⟩ := bd_e hf
    refine rm_calliV (av := [.int 1]) (rest := []) hx hb hml hown hts hl.1 hK hA hB (cm_lastsOn l D ad cy n σ6 1 hkr7) (kw_lastsOn hts ⟨Nat.le_of_ble_eq_true rfl, Nat.le_of_ble_eq_true rfl⟩) rfl rfl (lv_room (Nat.le_of_ble_eq_true rfl)) dX8_aheadOf_66 (Nat.le_refl _) (Nat.le_refl _) (fun H locs hB => ?_)
    obtain ⟨rfl, rfl⟩ := so_e hf
    exact rm_iret hx hb hr hlocks hK hB dX8_aheadOf_69
def bm_aheadOf_32 (n : Nat) (σ : MS) (x1 : Int32) (x2 : Int32) (x3 : Int32) (t0 : Int32) (t1 : Int32) : Option (Int32 × MS) := if (x1 = 3) then (bm_aheadOf_45 n σ x1 x2 x3 t0 t1) else (bm_aheadOf_45 n σ x1 x2 (σ.1 0 41) t0 t1)
set_option maxRecDepth 100000 in
set_option maxHeartbeats 4000000 in
theorem tbm_aheadOf_32 {p : Program} {l : Launch} {e : Env} {s : State} {m : MethodId} {args : Array Value} {below : List Frame} {meth : Method} {c : Code} {D : va_G} {A : Nat → Prop} {ad : Nat → Nat} {cy : ClassId} {r0 : Int32} {σ0 : MS} (hc : cxB RX8 wsM cX8_aheadOf 4 (some .int) p s m args meth c) (hK : va_K D vwCl [(cy, .int)] s) (hA : ∀ q, s.heap.size ≤ q → A q) (n : Nat) (σ : MS) (x1 : Int32) (x2 : Int32) (x3 : Int32) (t0 : Int32) (t1 : Int32) {H : Heap} {locs : List Loc} {ls : Array Slot} (hB : mB D ad cy A s.heap σ H locs) (hl : lv_has ls 4 [(0, .ref (ad 0)), (1, .int x1), (2, .int x2), (3, .int x3)]) (hf : bm_aheadOf_32 n σ x1 x2 x3 t0 t1 = some (r0, σ0)) : W p l e rm_aheadOf s m args below meth c H locs 0 0 (MQ below (mQi D ad cy A r0 σ0) args s 0 0 A) (F0 m 32 ls [.int t0, .int t1, .ref (ad 0)]) := by
  obtain ⟨hx, hb, hml, hown, hts, hr, hlocks⟩ := id hc
  unfold bm_aheadOf_32 at hf
  refine lv_iload_n hx hb dX8_aheadOf_32 rfl (lv_at hl 1 rfl) ?_
  refine lv_iconst (v := 3) hx hb dX8_aheadOf_33 (by decide) ?_
  refine lv_icmp_ne (tgt := 41) hx hb dX8_aheadOf_34 (by decide) (fun c1 => ?_) (fun c1 => ?_)
  · have hf := it_f hf c1
    refine lv_aload_n hx hb dX8_aheadOf_41 rfl (lv_at hl 0 rfl) ?_
    refine rm_get hx hb hts inM hown hK hB 41 (Nat.le_of_ble_eq_true rfl) qf_256 rfl dX8_aheadOf_42 ?_
    exact tbm_aheadOf_45 hc hK hA n σ x1 x2 (σ.1 0 41) t0 t1 hB (lv_sub hl [0, 1, 2] rfl) hf
  · have hf := it_t hf c1
    refine lv_iload_n hx hb dX8_aheadOf_37 rfl (lv_at hl 3 rfl) ?_
    refine lv_goto (tgt := 45) hx hb dX8_aheadOf_38 (by decide) ?_
    exact tbm_aheadOf_45 hc hK hA n σ x1 x2 x3 t0 t1 hB (lv_sub hl [0, 1, 2] rfl) hf
def bm_aheadOf_14 (n : Nat) (σ : MS) (x1 : Int32) (x2 : Int32) (x3 : Int32) (t0 : Int32) : Option (Int32 × MS) := if (x1 = 4) then (bm_aheadOf_32 n σ x1 x2 x3 ((σ.1 0 44) / 2) t0) else (bm_aheadOf_32 n σ x1 x2 x3 (σ.1 0 44) t0)
set_option maxRecDepth 100000 in
set_option maxHeartbeats 4000000 in
theorem tbm_aheadOf_14 {p : Program} {l : Launch} {e : Env} {s : State} {m : MethodId} {args : Array Value} {below : List Frame} {meth : Method} {c : Code} {D : va_G} {A : Nat → Prop} {ad : Nat → Nat} {cy : ClassId} {r0 : Int32} {σ0 : MS} (hc : cxB RX8 wsM cX8_aheadOf 4 (some .int) p s m args meth c) (hK : va_K D vwCl [(cy, .int)] s) (hA : ∀ q, s.heap.size ≤ q → A q) (n : Nat) (σ : MS) (x1 : Int32) (x2 : Int32) (x3 : Int32) (t0 : Int32) {H : Heap} {locs : List Loc} {ls : Array Slot} (hB : mB D ad cy A s.heap σ H locs) (hl : lv_has ls 4 [(0, .ref (ad 0)), (1, .int x1), (2, .int x2), (3, .int x3)]) (hf : bm_aheadOf_14 n σ x1 x2 x3 t0 = some (r0, σ0)) : W p l e rm_aheadOf s m args below meth c H locs 0 0 (MQ below (mQi D ad cy A r0 σ0) args s 0 0 A) (F0 m 14 ls [.int t0, .ref (ad 0)]) := by
  obtain ⟨hx, hb, hml, hown, hts, hr, hlocks⟩ := id hc
  unfold bm_aheadOf_14 at hf
  refine lv_iload_n hx hb dX8_aheadOf_14 rfl (lv_at hl 1 rfl) ?_
  refine lv_iconst (v := 4) hx hb dX8_aheadOf_15 (by decide) ?_
  refine lv_icmp_ne (tgt := 28) hx hb dX8_aheadOf_16 (by decide) (fun c1 => ?_) (fun c1 => ?_)
  · have hf := it_f hf c1
    refine lv_aload_n hx hb dX8_aheadOf_28 rfl (lv_at hl 0 rfl) ?_
    refine rm_get hx hb hts inM hown hK hB 44 (Nat.le_of_ble_eq_true rfl) qf_259 rfl dX8_aheadOf_29 ?_
    exact tbm_aheadOf_32 hc hK hA n σ x1 x2 x3 (σ.1 0 44) t0 hB (lv_sub hl [0, 1, 2, 3] rfl) hf
  · have hf := it_t hf c1
    refine lv_aload_n hx hb dX8_aheadOf_19 rfl (lv_at hl 0 rfl) ?_
    refine rm_get hx hb hts inM hown hK hB 44 (Nat.le_of_ble_eq_true rfl) qf_259 rfl dX8_aheadOf_20 ?_
    refine lv_iconst (v := 2) hx hb dX8_aheadOf_23 (by decide) ?_
    refine lv_idiv hx hb dX8_aheadOf_24 (by decide) ?_
    refine lv_goto (tgt := 32) hx hb dX8_aheadOf_25 (by decide) ?_
    exact tbm_aheadOf_32 hc hK hA n σ x1 x2 x3 ((σ.1 0 44) / 2) t0 hB (lv_sub hl [0, 1, 2, 3] rfl) hf
def fm_aheadOf (n : Nat) (σ : MS) (x1 : Int32) (x2 : Int32) (x3 : Int32) : Option (Int32 × MS) := if (x1 = 2) then (bm_aheadOf_14 n σ x1 x2 x3 x3) else (bm_aheadOf_14 n σ x1 x2 x3 (σ.1 0 39))
set_option maxRecDepth 100000 in
set_option maxHeartbeats 4000000 in
theorem tbm_aheadOf_0 {p : Program} {l : Launch} {e : Env} {s : State} {m : MethodId} {args : Array Value} {below : List Frame} {meth : Method} {c : Code} {D : va_G} {A : Nat → Prop} {ad : Nat → Nat} {cy : ClassId} {r0 : Int32} {σ0 : MS} (hc : cxB RX8 wsM cX8_aheadOf 4 (some .int) p s m args meth c) (hK : va_K D vwCl [(cy, .int)] s) (hA : ∀ q, s.heap.size ≤ q → A q) (n : Nat) (σ : MS) (x1 : Int32) (x2 : Int32) (x3 : Int32) {H : Heap} {locs : List Loc} {ls : Array Slot} (hB : mB D ad cy A s.heap σ H locs) (hl : lv_has ls 4 [(0, .ref (ad 0)), (1, .int x1), (2, .int x2), (3, .int x3)]) (hf : fm_aheadOf n σ x1 x2 x3 = some (r0, σ0)) : W p l e rm_aheadOf s m args below meth c H locs 0 0 (MQ below (mQi D ad cy A r0 σ0) args s 0 0 A) (F0 m 0 ls []) := by
  obtain ⟨hx, hb, hml, hown, hts, hr, hlocks⟩ := id hc
  unfold fm_aheadOf at hf
  refine lv_aload_n hx hb dX8_aheadOf_0 rfl (lv_at hl 0 rfl) ?_
  refine lv_iload_n hx hb dX8_aheadOf_1 rfl (lv_at hl 1 rfl) ?_
  refine lv_iconst (v := 2) hx hb dX8_aheadOf_2 (by decide) ?_
  refine lv_icmp_ne (tgt := 10) hx hb dX8_aheadOf_3 (by decide) (fun c1 => ?_) (fun c1 => ?_)
  · have hf := it_f hf c1
    refine lv_aload_n hx hb dX8_aheadOf_10 rfl (lv_at hl 0 rfl) ?_
    refine rm_get hx hb hts inM hown hK hB 39 (Nat.le_of_ble_eq_true rfl) qf_250 rfl dX8_aheadOf_11 ?_
    exact tbm_aheadOf_14 hc hK hA n σ x1 x2 x3 (σ.1 0 39) hB (lv_sub hl [0, 1, 2, 3] rfl) hf
  · have hf := it_t hf c1
    refine lv_iload_n hx hb dX8_aheadOf_6 rfl (lv_at hl 3 rfl) ?_
    refine lv_goto (tgt := 14) hx hb dX8_aheadOf_7 (by decide) ?_
    exact tbm_aheadOf_14 hc hK hA n σ x1 x2 x3 x3 hB (lv_sub hl [0, 1, 2, 3] rfl) hf
theorem cm_aheadOf (l : Launch) (D : va_G) (ad : Nat → Nat) (cy : ClassId) (n : Nat) (σ : MS) (x1 : Int32) (x2 : Int32) (x3 : Int32) {r0 : Int32} {σ0 : MS} (hf : fm_aheadOf n σ x1 x2 x3 = some (r0, σ0)) : mMi l yX8_aheadOf wn_aheadOf rm_aheadOf D ad cy [.ref (ad 0), .int x1, .int x2, .int x3] σ r0 σ0 :=
  rm_meti (ret := (some .int)) (by decide) rfl (Nat.le_of_ble_eq_true rfl) (fun p e s m below meth c A ls hc hK hA hB hl => tbm_aheadOf_0 hc hK hA n σ x1 x2 x3 hB hl hf)
theorem kw_aheadOf {R : Room} {s : State} {args : Array Value} (hts : ∀ w ∈ wsM, w.before args s = true) (hR : rm_aheadOf.frames + 1 ≤ R.frames ∧ 8 + (4 + 11) + rm_aheadOf.locals ≤ R.locals) : CallW R s args RX8 RX8 301 yX8_aheadOf cX8_aheadOf 4 (some .int) wn_aheadOf rm_aheadOf 0 0 3 := cwV 3 hts (gM_v qw_205 qw_206 qw_207 qw_37 qw_204) rfl rfl rfl (by decide +kernel) hR
/-! ahead -/
abbrev rm_ahead : Room := { frames := 7, cells := 0, slots := 0, locals := 169 }
abbrev wn_ahead : List Cond := .code yX8_ahead cX8_ahead 4 (some .int) :: wsM
def bm_ahead_39 (n : Nat) (σ : MS) (x1 : Int32) (x2 : Int32) (x3 : Int32) : Option (Int32 × MS) := bd (fm_isIn n σ x1 0 4) (fun r1 σ2 => if (r1 = 0) then (bd (fm_no n σ2 (-2)) (fun r9 σ10 => some (r9, σ10))) else (if ((σ2.1 0 38) = 0) then (bd (fm_no n σ2 (-3)) (fun r7 σ8 => some (r7, σ8))) else (bd (fm_aheadOf n σ2 x1 x2 x3) (fun r5 σ6 => some (r5, σ6)))))
set_option maxRecDepth 100000 in
set_option maxHeartbeats 4000000 in
theorem tbm_ahead_39 {p : Program} {l : Launch} {e : Env} {s : State} {m : MethodId} {args : Array Value} {below : List Frame} {meth : Method} {c : Code} {D : va_G} {A : Nat → Prop} {ad : Nat → Nat} {cy : ClassId} {r0 : Int32} {σ0 : MS} (hc : cxB RX8 wsM cX8_ahead 4 (some .int) p s m args meth c) (hK : va_K D vwCl [(cy, .int)] s) (hA : ∀ q, s.heap.size ≤ q → A q) (n : Nat) (σ : MS) (x1 : Int32) (x2 : Int32) (x3 : Int32) {H : Heap} {locs : List Loc} {ls : Array Slot} (hB : mB D ad cy A s.heap σ H locs) (hl : lv_has ls 4 [(0, .ref (ad 0)), (1, .int x1), (2, .int x2), (3, .int x3)]) (hf : bm_ahead_39 n σ x1 x2 x3 = some (r0, σ0)) : W p l e rm_ahead s m args below meth c H locs 0 0 (MQ below (mQi D ad cy A r0 σ0) args s 0 0 A) (F0 m 39 ls []) := by
  obtain ⟨hx, hb, hml, hown, hts, hr, hlocks⟩ := id hc
  unfold bm_ahead_39 at hf
  refine lv_iload_n hx hb dX8_ahead_39 rfl (lv_at hl 1 rfl) ?_
  refine lv_iconst (v := 0) hx hb dX8_ahead_40 (by decide) ?_
  refine lv_iconst (v := 4) hx hb dX8_ahead_41 (by decide) ?_
  obtain ⟨r1, σ2, hkr1, hf⟩ := bd_e hf
  refine rm_calliS (av := [.int x1, .int 0, .int 4]) (rest := []) hx hb hml hown hts hl.1 hK hA hB (cm_isIn l D ad cy n σ x1 0 4 hkr1) (kw_isIn hts ⟨Nat.le_of_ble_eq_true rfl, Nat.le_of_ble_eq_true rfl⟩) rfl rfl (lv_room (Nat.le_of_ble_eq_true rfl)) dX8_ahead_42 (Nat.le_refl _) (Nat.le_refl _) (fun H locs hB => ?_)
  refine lv_if_ne (tgt := 55) hx hb dX8_ahead_45 (by decide) (fun c3 => ?_) (fun c3 => ?_)
  · have hf := it_f hf c3
    refine lv_aload_n hx hb dX8_ahead_55 rfl (lv_at hl 0 rfl) ?_
    refine rm_get hx hb hts inM hown hK hB 38 (Nat.le_of_ble_eq_true rfl) qf_253 rfl dX8_ahead_56 ?_
    refine lv_if_ne (tgt := 71) hx hb dX8_ahead_59 (by decide) (fun c4 => ?_) (fun c4 => ?_)
    · have hf := it_f hf c4
      refine lv_aload_n hx hb dX8_ahead_71 rfl (lv_at hl 0 rfl) ?_
      refine lv_iload_n hx hb dX8_ahead_72 rfl (lv_at hl 1 rfl) ?_
      refine lv_iload_n hx hb dX8_ahead_73 rfl (lv_at hl 2 rfl) ?_
      refine lv_iload_n hx hb dX8_ahead_74 rfl (lv_at hl 3 rfl) ?_
      obtain ⟨r5, σ6, hkr5, hf⟩ := bd_e hf
      refine rm_calliV (av := [.int x1, .int x2, .int x3]) (rest := []) hx hb hml hown hts hl.1 hK hA hB (cm_aheadOf l D ad cy n σ2 x1 x2 x3 hkr5) (kw_aheadOf hts ⟨Nat.le_of_ble_eq_true rfl, Nat.le_of_ble_eq_true rfl⟩) rfl rfl (lv_room (Nat.le_of_ble_eq_true rfl)) dX8_ahead_75 (Nat.le_refl _) (Nat.le_refl _) (fun H locs hB => ?_)
      obtain ⟨rfl, rfl⟩ := so_e hf
      exact rm_iret hx hb hr hlocks hK hB dX8_ahead_78
    · have hf := it_t hf c4
      refine lv_aload_n hx hb dX8_ahead_62 rfl (lv_at hl 0 rfl) ?_
      refine lv_bipush (v := (-3)) hx hb dX8_ahead_63 (by decide) ?_
      obtain ⟨r7, σ8, hkr7, hf⟩ := bd_e hf
      refine rm_calliV (av := [.int (-3)]) (rest := []) hx hb hml hown hts hl.1 hK hA hB (cm_no l D ad cy n σ2 (-3) hkr7) (kw_no hts ⟨Nat.le_of_ble_eq_true rfl, Nat.le_of_ble_eq_true rfl⟩) rfl rfl (lv_room (Nat.le_of_ble_eq_true rfl)) dX8_ahead_65 (Nat.le_refl _) (Nat.le_refl _) (fun H locs hB => ?_)
      refine lv_goto (tgt := 78) hx hb dX8_ahead_68 (by decide) ?_
      obtain ⟨rfl, rfl⟩ := so_e hf
      exact rm_iret hx hb hr hlocks hK hB dX8_ahead_78
  · have hf := it_t hf c3
    refine lv_aload_n hx hb dX8_ahead_48 rfl (lv_at hl 0 rfl) ?_
    refine lv_bipush (v := (-2)) hx hb dX8_ahead_49 (by decide) ?_
    obtain ⟨r9, σ10, hkr9, hf⟩ := bd_e hf
    refine rm_calliV (av := [.int (-2)]) (rest := []) hx hb hml hown hts hl.1 hK hA hB (cm_no l D ad cy n σ2 (-2) hkr9) (kw_no hts ⟨Nat.le_of_ble_eq_true rfl, Nat.le_of_ble_eq_true rfl⟩) rfl rfl (lv_room (Nat.le_of_ble_eq_true rfl)) dX8_ahead_51 (Nat.le_refl _) (Nat.le_refl _) (fun H locs hB => ?_)
    obtain ⟨rfl, rfl⟩ := so_e hf
    exact rm_iret hx hb hr hlocks hK hB dX8_ahead_54
def bm_ahead_21 (n : Nat) (σ : MS) (x1 : Int32) (x2 : Int32) (x3 : Int32) : Option (Int32 × MS) := if (x1 = 3) then (bd (fm_isFloor n σ x3) (fun r2 σ3 => if (r2 = 0) then (bd (fm_no n σ3 (-1)) (fun r5 σ6 => some (r5, σ6))) else (bm_ahead_39 n σ3 x1 x2 x3))) else (bm_ahead_39 n σ x1 x2 x3)
set_option maxRecDepth 100000 in
set_option maxHeartbeats 4000000 in
theorem tbm_ahead_21 {p : Program} {l : Launch} {e : Env} {s : State} {m : MethodId} {args : Array Value} {below : List Frame} {meth : Method} {c : Code} {D : va_G} {A : Nat → Prop} {ad : Nat → Nat} {cy : ClassId} {r0 : Int32} {σ0 : MS} (hc : cxB RX8 wsM cX8_ahead 4 (some .int) p s m args meth c) (hK : va_K D vwCl [(cy, .int)] s) (hA : ∀ q, s.heap.size ≤ q → A q) (n : Nat) (σ : MS) (x1 : Int32) (x2 : Int32) (x3 : Int32) {H : Heap} {locs : List Loc} {ls : Array Slot} (hB : mB D ad cy A s.heap σ H locs) (hl : lv_has ls 4 [(0, .ref (ad 0)), (1, .int x1), (2, .int x2), (3, .int x3)]) (hf : bm_ahead_21 n σ x1 x2 x3 = some (r0, σ0)) : W p l e rm_ahead s m args below meth c H locs 0 0 (MQ below (mQi D ad cy A r0 σ0) args s 0 0 A) (F0 m 21 ls []) := by
  obtain ⟨hx, hb, hml, hown, hts, hr, hlocks⟩ := id hc
  unfold bm_ahead_21 at hf
  refine lv_iload_n hx hb dX8_ahead_21 rfl (lv_at hl 1 rfl) ?_
  refine lv_iconst (v := 3) hx hb dX8_ahead_22 (by decide) ?_
  refine lv_icmp_ne (tgt := 39) hx hb dX8_ahead_23 (by decide) (fun c1 => ?_) (fun c1 => ?_)
  · have hf := it_f hf c1
    exact tbm_ahead_39 hc hK hA n σ x1 x2 x3 hB (lv_sub hl [0, 1, 2, 3] rfl) hf
  · have hf := it_t hf c1
    refine lv_iload_n hx hb dX8_ahead_26 rfl (lv_at hl 3 rfl) ?_
    obtain ⟨r2, σ3, hkr2, hf⟩ := bd_e hf
    refine rm_calliS (av := [.int x3]) (rest := []) hx hb hml hown hts hl.1 hK hA hB (cm_isFloor l D ad cy n σ x3 hkr2) (kw_isFloor hts ⟨Nat.le_of_ble_eq_true rfl, Nat.le_of_ble_eq_true rfl⟩) rfl rfl (lv_room (Nat.le_of_ble_eq_true rfl)) dX8_ahead_27 (Nat.le_refl _) (Nat.le_refl _) (fun H locs hB => ?_)
    refine lv_if_ne (tgt := 39) hx hb dX8_ahead_30 (by decide) (fun c4 => ?_) (fun c4 => ?_)
    · have hf := it_f hf c4
      exact tbm_ahead_39 hc hK hA n σ3 x1 x2 x3 hB (lv_sub hl [0, 1, 2, 3] rfl) hf
    · have hf := it_t hf c4
      refine lv_aload_n hx hb dX8_ahead_33 rfl (lv_at hl 0 rfl) ?_
      refine lv_iconst (v := (-1)) hx hb dX8_ahead_34 (by decide) ?_
      obtain ⟨r5, σ6, hkr5, hf⟩ := bd_e hf
      refine rm_calliV (av := [.int (-1)]) (rest := []) hx hb hml hown hts hl.1 hK hA hB (cm_no l D ad cy n σ3 (-1) hkr5) (kw_no hts ⟨Nat.le_of_ble_eq_true rfl, Nat.le_of_ble_eq_true rfl⟩) rfl rfl (lv_room (Nat.le_of_ble_eq_true rfl)) dX8_ahead_35 (Nat.le_refl _) (Nat.le_refl _) (fun H locs hB => ?_)
      obtain ⟨rfl, rfl⟩ := so_e hf
      exact rm_iret hx hb hr hlocks hK hB dX8_ahead_38
def fm_ahead (n : Nat) (σ : MS) (x1 : Int32) (x2 : Int32) (x3 : Int32) : Option (Int32 × MS) := bd (fm_isSet n σ x2) (fun r1 σ2 => if (r1 = 0) then (bd (fm_no n σ2 (-1)) (fun r4 σ5 => some (r4, σ5))) else (if (x1 = 2) then (bd (fm_isPlate n σ2 x3) (fun r7 σ8 => if (r7 = 0) then (bd (fm_no n σ8 (-1)) (fun r10 σ11 => some (r10, σ11))) else (bm_ahead_21 n σ8 x1 x2 x3))) else (bm_ahead_21 n σ2 x1 x2 x3)))
set_option maxRecDepth 100000 in
set_option maxHeartbeats 4000000 in
theorem tbm_ahead_0 {p : Program} {l : Launch} {e : Env} {s : State} {m : MethodId} {args : Array Value} {below : List Frame} {meth : Method} {c : Code} {D : va_G} {A : Nat → Prop} {ad : Nat → Nat} {cy : ClassId} {r0 : Int32} {σ0 : MS} (hc : cxB RX8 wsM cX8_ahead 4 (some .int) p s m args meth c) (hK : va_K D vwCl [(cy, .int)] s) (hA : ∀ q, s.heap.size ≤ q → A q) (n : Nat) (σ : MS) (x1 : Int32) (x2 : Int32) (x3 : Int32) {H : Heap} {locs : List Loc} {ls : Array Slot} (hB : mB D ad cy A s.heap σ H locs) (hl : lv_has ls 4 [(0, .ref (ad 0)), (1, .int x1), (2, .int x2), (3, .int x3)]) (hf : fm_ahead n σ x1 x2 x3 = some (r0, σ0)) : W p l e rm_ahead s m args below meth c H locs 0 0 (MQ below (mQi D ad cy A r0 σ0) args s 0 0 A) (F0 m 0 ls []) := by
  obtain ⟨hx, hb, hml, hown, hts, hr, hlocks⟩ := id hc
  unfold fm_ahead at hf
  refine lv_aload_n hx hb dX8_ahead_0 rfl (lv_at hl 0 rfl) ?_
  refine lv_iload_n hx hb dX8_ahead_1 rfl (lv_at hl 2 rfl) ?_
  obtain ⟨r1, σ2, hkr1, hf⟩ := bd_e hf
  refine rm_calliV (av := [.int x2]) (rest := []) hx hb hml hown hts hl.1 hK hA hB (cm_isSet l D ad cy n σ x2 hkr1) (kw_isSet hts ⟨Nat.le_of_ble_eq_true rfl, Nat.le_of_ble_eq_true rfl⟩) rfl rfl (lv_room (Nat.le_of_ble_eq_true rfl)) dX8_ahead_2 (Nat.le_refl _) (Nat.le_refl _) (fun H locs hB => ?_)
  refine lv_if_eq (tgt := 33) hx hb dX8_ahead_5 (by decide) (fun c3 => ?_) (fun c3 => ?_)
  · have hf := it_t hf c3
    refine lv_aload_n hx hb dX8_ahead_33 rfl (lv_at hl 0 rfl) ?_
    refine lv_iconst (v := (-1)) hx hb dX8_ahead_34 (by decide) ?_
    obtain ⟨r4, σ5, hkr4, hf⟩ := bd_e hf
    refine rm_calliV (av := [.int (-1)]) (rest := []) hx hb hml hown hts hl.1 hK hA hB (cm_no l D ad cy n σ2 (-1) hkr4) (kw_no hts ⟨Nat.le_of_ble_eq_true rfl, Nat.le_of_ble_eq_true rfl⟩) rfl rfl (lv_room (Nat.le_of_ble_eq_true rfl)) dX8_ahead_35 (Nat.le_refl _) (Nat.le_refl _) (fun H locs hB => ?_)
    obtain ⟨rfl, rfl⟩ := so_e hf
    exact rm_iret hx hb hr hlocks hK hB dX8_ahead_38
  · have hf := it_f hf c3
    refine lv_iload_n hx hb dX8_ahead_8 rfl (lv_at hl 1 rfl) ?_
    refine lv_iconst (v := 2) hx hb dX8_ahead_9 (by decide) ?_
    refine lv_icmp_ne (tgt := 21) hx hb dX8_ahead_10 (by decide) (fun c6 => ?_) (fun c6 => ?_)
    · have hf := it_f hf c6
      exact tbm_ahead_21 hc hK hA n σ2 x1 x2 x3 hB (lv_sub hl [0, 1, 2, 3] rfl) hf
    · have hf := it_t hf c6
      refine lv_aload_n hx hb dX8_ahead_13 rfl (lv_at hl 0 rfl) ?_
      refine lv_iload_n hx hb dX8_ahead_14 rfl (lv_at hl 3 rfl) ?_
      obtain ⟨r7, σ8, hkr7, hf⟩ := bd_e hf
      refine rm_calliV (av := [.int x3]) (rest := []) hx hb hml hown hts hl.1 hK hA hB (cm_isPlate l D ad cy n σ2 x3 hkr7) (kw_isPlate hts ⟨Nat.le_of_ble_eq_true rfl, Nat.le_of_ble_eq_true rfl⟩) rfl rfl (lv_room (Nat.le_of_ble_eq_true rfl)) dX8_ahead_15 (Nat.le_refl _) (Nat.le_refl _) (fun H locs hB => ?_)
      refine lv_if_eq (tgt := 33) hx hb dX8_ahead_18 (by decide) (fun c9 => ?_) (fun c9 => ?_)
      · have hf := it_t hf c9
        refine lv_aload_n hx hb dX8_ahead_33 rfl (lv_at hl 0 rfl) ?_
        refine lv_iconst (v := (-1)) hx hb dX8_ahead_34 (by decide) ?_
        obtain ⟨r10, σ11, hkr10, hf⟩ := bd_e hf
        refine rm_calliV (av := [.int (-1)]) (rest := []) hx hb hml hown hts hl.1 hK hA hB (cm_no l D ad cy n σ8 (-1) hkr10) (kw_no hts ⟨Nat.le_of_ble_eq_true rfl, Nat.le_of_ble_eq_true rfl⟩) rfl rfl (lv_room (Nat.le_of_ble_eq_true rfl)) dX8_ahead_35 (Nat.le_refl _) (Nat.le_refl _) (fun H locs hB => ?_)
        obtain ⟨rfl, rfl⟩ := so_e hf
        exact rm_iret hx hb hr hlocks hK hB dX8_ahead_38
      · have hf := it_f hf c9
        exact tbm_ahead_21 hc hK hA n σ8 x1 x2 x3 hB (lv_sub hl [0, 1, 2, 3] rfl) hf
theorem cm_ahead (l : Launch) (D : va_G) (ad : Nat → Nat) (cy : ClassId) (n : Nat) (σ : MS) (x1 : Int32) (x2 : Int32) (x3 : Int32) {r0 : Int32} {σ0 : MS} (hf : fm_ahead n σ x1 x2 x3 = some (r0, σ0)) : mMi l yX8_ahead wn_ahead rm_ahead D ad cy [.ref (ad 0), .int x1, .int x2, .int x3] σ r0 σ0 :=
  rm_meti (ret := (some .int)) (by decide) rfl (Nat.le_of_ble_eq_true rfl) (fun p e s m below meth c A ls hc hK hA hB hl => tbm_ahead_0 hc hK hA n σ x1 x2 x3 hB hl hf)
/-! parts -/
abbrev rm_parts : Room := { frames := 7, cells := 0, slots := 0, locals := 169 }
abbrev wn_parts : List Cond := .code yX8_parts cX8_parts 11 (some .int) :: wsM
def bm_parts_132 (n : Nat) (K78 : MS → Int32 → Int32 → Int32 → Int32 → Int32 → Int32 → Int32 → Int32 → Option (Int32 × MS)) (σ : MS) (x1 : Int32) (x2 : Int32) (x3 : Int32) (x4 : Int32) (x5 : Int32) (x6 : Int32) (x7 : Int32) (x8 : Int32) (t0 : Int32) : Option (Int32 × MS) := if (x7 < t0) then (sq (x8 + 1 : Int32) (fun y2 => K78 σ x1 x2 x3 x4 x5 x8 t0 y2)) else (sq (x8 + 1 : Int32) (fun y3 => K78 σ x1 x2 x3 x4 x5 x6 x7 y3))
set_option maxRecDepth 100000 in
set_option maxHeartbeats 4000000 in
theorem tbm_parts_132 {p : Program} {l : Launch} {e : Env} {s : State} {m : MethodId} {args : Array Value} {below : List Frame} {meth : Method} {c : Code} {D : va_G} {A : Nat → Prop} {ad : Nat → Nat} {cy : ClassId} {r0 : Int32} {σ0 : MS} (hc : cxB RX8 wsM cX8_parts 11 (some .int) p s m args meth c) (hK : va_K D vwCl [(cy, .int)] s) (hA : ∀ q, s.heap.size ≤ q → A q) (n : Nat) (K78 : MS → Int32 → Int32 → Int32 → Int32 → Int32 → Int32 → Int32 → Int32 → Option (Int32 × MS)) (hK78 : ∀ (σ : MS) (x1 : Int32) (x2 : Int32) (x3 : Int32) (x4 : Int32) (x5 : Int32) (x6 : Int32) (x7 : Int32) (x8 : Int32) (H : Heap) (locs : List Loc) (ls : Array Slot), mB D ad cy A s.heap σ H locs → lv_has ls 11 [(0, .ref (ad 0)), (1, .int x1), (2, .int x2), (3, .int x3), (4, .int x4), (5, .int x5), (6, .int x6), (7, .int x7), (8, .int x8)] → K78 σ x1 x2 x3 x4 x5 x6 x7 x8 = some (r0, σ0) → W p l e rm_parts s m args below meth c H locs 0 0 (MQ below (mQi D ad cy A r0 σ0) args s 0 0 A) (F0 m 78 ls [])) (σ : MS) (x1 : Int32) (x2 : Int32) (x3 : Int32) (x4 : Int32) (x5 : Int32) (x6 : Int32) (x7 : Int32) (x8 : Int32) (t0 : Int32) {H : Heap} {locs : List Loc} {ls : Array Slot} (hB : mB D ad cy A s.heap σ H locs) (hl : lv_has ls 11 [(0, .ref (ad 0)), (1, .int x1), (2, .int x2), (3, .int x3), (4, .int x4), (5, .int x5), (6, .int x6), (7, .int x7), (8, .int x8)]) (hf : bm_parts_132 n K78 σ x1 x2 x3 x4 x5 x6 x7 x8 t0 = some (r0, σ0)) : W p l e rm_parts s m args below meth c H locs 0 0 (MQ below (mQi D ad cy A r0 σ0) args s 0 0 A) (F0 m 132 ls [.int t0]) := by
  obtain ⟨hx, hb, hml, hown, hts, hr, hlocks⟩ := id hc
  unfold bm_parts_132 at hf
  refine lv_istore (lv' := [(10, .int t0), (0, .ref (ad 0)), (1, .int x1), (2, .int x2), (3, .int x3), (4, .int x4), (5, .int x5), (6, .int x6), (7, .int x7), (8, .int x8)]) hx hb dX8_parts_132 hl (by decide) rfl (fun ls hl => ?_)
  refine lv_iload hx hb dX8_parts_134 (lv_at hl 0 rfl) ?_
  refine lv_iload hx hb dX8_parts_136 (lv_at hl 8 rfl) ?_
  refine lv_icmp_gt (tgt := 144) hx hb dX8_parts_138 (by decide) (fun c1 => ?_) (fun c1 => ?_)
  · have hf := it_t hf c1
    refine lv_iload hx hb dX8_parts_144 (lv_at hl 0 rfl) ?_
    refine lv_istore (lv' := [(7, .int t0), (10, .int t0), (0, .ref (ad 0)), (1, .int x1), (2, .int x2), (3, .int x3), (4, .int x4), (5, .int x5), (6, .int x6), (8, .int x8)]) hx hb dX8_parts_146 hl (by decide) rfl (fun ls hl => ?_)
    refine lv_iload hx hb dX8_parts_148 (lv_at hl 9 rfl) ?_
    refine lv_istore (lv' := [(6, .int x8), (7, .int t0), (10, .int t0), (0, .ref (ad 0)), (1, .int x1), (2, .int x2), (3, .int x3), (4, .int x4), (5, .int x5), (8, .int x8)]) hx hb dX8_parts_150 hl (by decide) rfl (fun ls hl => ?_)
    obtain ⟨y2, ey2⟩ : ∃ z : Int32, z = x8 + 1 := ⟨_, rfl⟩
    have hf := sq_e hf y2 ey2
    refine lv_iinc (v := y2) (lv' := [(8, .int y2), (6, .int x8), (7, .int t0), (10, .int t0), (0, .ref (ad 0)), (1, .int x1), (2, .int x2), (3, .int x3), (4, .int x4), (5, .int x5)]) hx hb dX8_parts_152 hl (k := 9) rfl (by rw [ey2]; rfl) (by decide) rfl (fun ls hl => ?_)
    refine lv_goto (tgt := 78) hx hb dX8_parts_155 (by decide) ?_
    exact hK78 σ x1 x2 x3 x4 x5 x8 t0 y2 _ _ _ hB (lv_sub hl [4, 5, 6, 7, 8, 9, 1, 2, 0] rfl) hf
  · have hf := it_f hf c1
    refine lv_goto (tgt := 152) hx hb dX8_parts_141 (by decide) ?_
    obtain ⟨y3, ey3⟩ : ∃ z : Int32, z = x8 + 1 := ⟨_, rfl⟩
    have hf := sq_e hf y3 ey3
    refine lv_iinc (v := y3) (lv' := [(8, .int y3), (10, .int t0), (0, .ref (ad 0)), (1, .int x1), (2, .int x2), (3, .int x3), (4, .int x4), (5, .int x5), (6, .int x6), (7, .int x7)]) hx hb dX8_parts_152 hl (k := 9) rfl (by rw [ey3]; rfl) (by decide) rfl (fun ls hl => ?_)
    refine lv_goto (tgt := 78) hx hb dX8_parts_155 (by decide) ?_
    exact hK78 σ x1 x2 x3 x4 x5 x6 x7 y3 _ _ _ hB (lv_sub hl [2, 3, 4, 5, 6, 7, 8, 9, 0] rfl) hf
def bm_parts_96 (n : Nat) (K78 : MS → Int32 → Int32 → Int32 → Int32 → Int32 → Int32 → Int32 → Int32 → Option (Int32 × MS)) (σ : MS) (x1 : Int32) (x2 : Int32) (x3 : Int32) (x4 : Int32) (x5 : Int32) (x6 : Int32) (x7 : Int32) (x8 : Int32) (t0 : Int32) : Option (Int32 × MS) := bd (fm_aheadOf n σ x8 x1 t0) (fun r1 σ2 => bd (fm_aheadOf n σ2 x8 x2 t0) (fun r3 σ4 => sq ((r1 - r3) : Int32) (fun y5 => if (0 ≤ y5) then (bm_parts_132 n K78 σ4 x1 x2 x3 x4 x5 x6 x7 x8 y5) else (bm_parts_132 n K78 σ4 x1 x2 x3 x4 x5 x6 x7 x8 (-y5)))))
set_option maxRecDepth 100000 in
set_option maxHeartbeats 4000000 in
theorem tbm_parts_96 {p : Program} {l : Launch} {e : Env} {s : State} {m : MethodId} {args : Array Value} {below : List Frame} {meth : Method} {c : Code} {D : va_G} {A : Nat → Prop} {ad : Nat → Nat} {cy : ClassId} {r0 : Int32} {σ0 : MS} (hc : cxB RX8 wsM cX8_parts 11 (some .int) p s m args meth c) (hK : va_K D vwCl [(cy, .int)] s) (hA : ∀ q, s.heap.size ≤ q → A q) (n : Nat) (K78 : MS → Int32 → Int32 → Int32 → Int32 → Int32 → Int32 → Int32 → Int32 → Option (Int32 × MS)) (hK78 : ∀ (σ : MS) (x1 : Int32) (x2 : Int32) (x3 : Int32) (x4 : Int32) (x5 : Int32) (x6 : Int32) (x7 : Int32) (x8 : Int32) (H : Heap) (locs : List Loc) (ls : Array Slot), mB D ad cy A s.heap σ H locs → lv_has ls 11 [(0, .ref (ad 0)), (1, .int x1), (2, .int x2), (3, .int x3), (4, .int x4), (5, .int x5), (6, .int x6), (7, .int x7), (8, .int x8)] → K78 σ x1 x2 x3 x4 x5 x6 x7 x8 = some (r0, σ0) → W p l e rm_parts s m args below meth c H locs 0 0 (MQ below (mQi D ad cy A r0 σ0) args s 0 0 A) (F0 m 78 ls [])) (σ : MS) (x1 : Int32) (x2 : Int32) (x3 : Int32) (x4 : Int32) (x5 : Int32) (x6 : Int32) (x7 : Int32) (x8 : Int32) (t0 : Int32) {H : Heap} {locs : List Loc} {ls : Array Slot} (hB : mB D ad cy A s.heap σ H locs) (hl : lv_has ls 11 [(0, .ref (ad 0)), (1, .int x1), (2, .int x2), (3, .int x3), (4, .int x4), (5, .int x5), (6, .int x6), (7, .int x7), (8, .int x8)]) (hf : bm_parts_96 n K78 σ x1 x2 x3 x4 x5 x6 x7 x8 t0 = some (r0, σ0)) : W p l e rm_parts s m args below meth c H locs 0 0 (MQ below (mQi D ad cy A r0 σ0) args s 0 0 A) (F0 m 96 ls [.int t0]) := by
  obtain ⟨hx, hb, hml, hown, hts, hr, hlocks⟩ := id hc
  unfold bm_parts_96 at hf
  refine lv_istore (lv' := [(9, .int t0), (0, .ref (ad 0)), (1, .int x1), (2, .int x2), (3, .int x3), (4, .int x4), (5, .int x5), (6, .int x6), (7, .int x7), (8, .int x8)]) hx hb dX8_parts_96 hl (by decide) rfl (fun ls hl => ?_)
  refine lv_aload_n hx hb dX8_parts_98 rfl (lv_at hl 1 rfl) ?_
  refine lv_iload hx hb dX8_parts_99 (lv_at hl 9 rfl) ?_
  refine lv_iload_n hx hb dX8_parts_101 rfl (lv_at hl 2 rfl) ?_
  refine lv_iload hx hb dX8_parts_102 (lv_at hl 0 rfl) ?_
  obtain ⟨r1, σ2, hkr1, hf⟩ := bd_e hf
  refine rm_calliV (av := [.int x8, .int x1, .int t0]) (rest := []) hx hb hml hown hts hl.1 hK hA hB (cm_aheadOf l D ad cy n σ x8 x1 t0 hkr1) (kw_aheadOf hts ⟨Nat.le_of_ble_eq_true rfl, Nat.le_of_ble_eq_true rfl⟩) rfl rfl (lv_room (Nat.le_of_ble_eq_true rfl)) dX8_parts_104 (Nat.le_refl _) (Nat.le_refl _) (fun H locs hB => ?_)
  refine lv_aload_n hx hb dX8_parts_107 rfl (lv_at hl 1 rfl) ?_
  refine lv_iload hx hb dX8_parts_108 (lv_at hl 9 rfl) ?_
  refine lv_iload_n hx hb dX8_parts_110 rfl (lv_at hl 3 rfl) ?_
  refine lv_iload hx hb dX8_parts_111 (lv_at hl 0 rfl) ?_
  obtain ⟨r3, σ4, hkr3, hf⟩ := bd_e hf
  refine rm_calliV (av := [.int x8, .int x2, .int t0]) (rest := [.int r1]) hx hb hml hown hts hl.1 hK hA hB (cm_aheadOf l D ad cy n σ2 x8 x2 t0 hkr3) (kw_aheadOf hts ⟨Nat.le_of_ble_eq_true rfl, Nat.le_of_ble_eq_true rfl⟩) rfl rfl (lv_room (Nat.le_of_ble_eq_true rfl)) dX8_parts_113 (Nat.le_refl _) (Nat.le_refl _) (fun H locs hB => ?_)
  refine lv_isub hx hb dX8_parts_116 ?_
  refine lv_topi (fun y5 ey5 => ?_)
  have hf := sq_e hf y5 ey5
  refine lv_istore (lv' := [(10, .int y5), (9, .int t0), (0, .ref (ad 0)), (1, .int x1), (2, .int x2), (3, .int x3), (4, .int x4), (5, .int x5), (6, .int x6), (7, .int x7), (8, .int x8)]) hx hb dX8_parts_117 hl (by decide) rfl (fun ls hl => ?_)
  refine lv_iload hx hb dX8_parts_119 (lv_at hl 0 rfl) ?_
  refine lv_if_ge (tgt := 130) hx hb dX8_parts_121 (by decide) (fun c6 => ?_) (fun c6 => ?_)
  · have hf := it_t hf c6
    refine lv_iload hx hb dX8_parts_130 (lv_at hl 0 rfl) ?_
    exact tbm_parts_132 hc hK hA n K78 hK78 σ4 x1 x2 x3 x4 x5 x6 x7 x8 y5 hB (lv_sub hl [2, 3, 4, 5, 6, 7, 8, 9, 10] rfl) hf
  · have hf := it_f hf c6
    refine lv_iload hx hb dX8_parts_124 (lv_at hl 0 rfl) ?_
    refine lv_ineg hx hb dX8_parts_126 ?_
    refine lv_goto (tgt := 132) hx hb dX8_parts_127 (by decide) ?_
    exact tbm_parts_132 hc hK hA n K78 hK78 σ4 x1 x2 x3 x4 x5 x6 x7 x8 (-y5) hB (lv_sub hl [2, 3, 4, 5, 6, 7, 8, 9, 10] rfl) hf
def bm_parts_78 (n : Nat) (K78 : MS → Int32 → Int32 → Int32 → Int32 → Int32 → Int32 → Int32 → Int32 → Option (Int32 × MS)) (σ : MS) (x1 : Int32) (x2 : Int32) (x3 : Int32) (x4 : Int32) (x5 : Int32) (x6 : Int32) (x7 : Int32) (x8 : Int32) : Option (Int32 × MS) := if (5 ≤ x8) then (if (x5 = 0) then (some (x6, σ)) else (some (x7, σ))) else (if (x8 = 2) then (bm_parts_96 n K78 σ x1 x2 x3 x4 x5 x6 x7 x8 x3) else (bm_parts_96 n K78 σ x1 x2 x3 x4 x5 x6 x7 x8 x4))
set_option maxRecDepth 100000 in
set_option maxHeartbeats 4000000 in
theorem tbm_parts_78 {p : Program} {l : Launch} {e : Env} {s : State} {m : MethodId} {args : Array Value} {below : List Frame} {meth : Method} {c : Code} {D : va_G} {A : Nat → Prop} {ad : Nat → Nat} {cy : ClassId} {r0 : Int32} {σ0 : MS} (hc : cxB RX8 wsM cX8_parts 11 (some .int) p s m args meth c) (hK : va_K D vwCl [(cy, .int)] s) (hA : ∀ q, s.heap.size ≤ q → A q) (n : Nat) (K78 : MS → Int32 → Int32 → Int32 → Int32 → Int32 → Int32 → Int32 → Int32 → Option (Int32 × MS)) (hK78 : ∀ (σ : MS) (x1 : Int32) (x2 : Int32) (x3 : Int32) (x4 : Int32) (x5 : Int32) (x6 : Int32) (x7 : Int32) (x8 : Int32) (H : Heap) (locs : List Loc) (ls : Array Slot), mB D ad cy A s.heap σ H locs → lv_has ls 11 [(0, .ref (ad 0)), (1, .int x1), (2, .int x2), (3, .int x3), (4, .int x4), (5, .int x5), (6, .int x6), (7, .int x7), (8, .int x8)] → K78 σ x1 x2 x3 x4 x5 x6 x7 x8 = some (r0, σ0) → W p l e rm_parts s m args below meth c H locs 0 0 (MQ below (mQi D ad cy A r0 σ0) args s 0 0 A) (F0 m 78 ls [])) (σ : MS) (x1 : Int32) (x2 : Int32) (x3 : Int32) (x4 : Int32) (x5 : Int32) (x6 : Int32) (x7 : Int32) (x8 : Int32) {H : Heap} {locs : List Loc} {ls : Array Slot} (hB : mB D ad cy A s.heap σ H locs) (hl : lv_has ls 11 [(0, .ref (ad 0)), (1, .int x1), (2, .int x2), (3, .int x3), (4, .int x4), (5, .int x5), (6, .int x6), (7, .int x7), (8, .int x8)]) (hf : bm_parts_78 n K78 σ x1 x2 x3 x4 x5 x6 x7 x8 = some (r0, σ0)) : W p l e rm_parts s m args below meth c H locs 0 0 (MQ below (mQi D ad cy A r0 σ0) args s 0 0 A) (F0 m 78 ls []) := by
  obtain ⟨hx, hb, hml, hown, hts, hr, hlocks⟩ := id hc
  unfold bm_parts_78 at hf
  refine lv_iload hx hb dX8_parts_78 (lv_at hl 8 rfl) ?_
  refine lv_iconst (v := 5) hx hb dX8_parts_80 (by decide) ?_
  refine lv_icmp_ge (tgt := 158) hx hb dX8_parts_81 (by decide) (fun c1 => ?_) (fun c1 => ?_)
  · have hf := it_t hf c1
    refine lv_iload hx hb dX8_parts_158 (lv_at hl 5 rfl) ?_
    refine lv_if_ne (tgt := 168) hx hb dX8_parts_160 (by decide) (fun c2 => ?_) (fun c2 => ?_)
    · have hf := it_f hf c2
      refine lv_iload hx hb dX8_parts_168 (lv_at hl 7 rfl) ?_
      obtain ⟨rfl, rfl⟩ := so_e hf
      exact rm_iret hx hb hr hlocks hK hB dX8_parts_170
    · have hf := it_t hf c2
      refine lv_iload hx hb dX8_parts_163 (lv_at hl 6 rfl) ?_
      refine lv_goto (tgt := 170) hx hb dX8_parts_165 (by decide) ?_
      obtain ⟨rfl, rfl⟩ := so_e hf
      exact rm_iret hx hb hr hlocks hK hB dX8_parts_170
  · have hf := it_f hf c1
    refine lv_iload hx hb dX8_parts_84 (lv_at hl 8 rfl) ?_
    refine lv_iconst (v := 2) hx hb dX8_parts_86 (by decide) ?_
    refine lv_icmp_ne (tgt := 94) hx hb dX8_parts_87 (by decide) (fun c3 => ?_) (fun c3 => ?_)
    · have hf := it_f hf c3
      refine lv_iload hx hb dX8_parts_94 (lv_at hl 4 rfl) ?_
      exact tbm_parts_96 hc hK hA n K78 hK78 σ x1 x2 x3 x4 x5 x6 x7 x8 x4 hB (lv_sub hl [0, 1, 2, 3, 4, 5, 6, 7, 8] rfl) hf
    · have hf := it_t hf c3
      refine lv_iload_n hx hb dX8_parts_90 rfl (lv_at hl 3 rfl) ?_
      refine lv_goto (tgt := 96) hx hb dX8_parts_91 (by decide) ?_
      exact tbm_parts_96 hc hK hA n K78 hK78 σ x1 x2 x3 x4 x5 x6 x7 x8 x3 hB (lv_sub hl [0, 1, 2, 3, 4, 5, 6, 7, 8] rfl) hf
def lm_parts_78 (n : Nat) : Nat → MS → Int32 → Int32 → Int32 → Int32 → Int32 → Int32 → Int32 → Int32 → Option (Int32 × MS)
  | 0 => fun _ _ _ _ _ _ _ _ _ => none
  | k + 1 => bm_parts_78 n (lm_parts_78 n k)
theorem tlm_parts_78 {p : Program} {l : Launch} {e : Env} {s : State} {m : MethodId} {args : Array Value} {below : List Frame} {meth : Method} {c : Code} {D : va_G} {A : Nat → Prop} {ad : Nat → Nat} {cy : ClassId} {r0 : Int32} {σ0 : MS} (hc : cxB RX8 wsM cX8_parts 11 (some .int) p s m args meth c) (hK : va_K D vwCl [(cy, .int)] s) (hA : ∀ q, s.heap.size ≤ q → A q) (n : Nat) : ∀ (k : Nat) (σ : MS) (x1 : Int32) (x2 : Int32) (x3 : Int32) (x4 : Int32) (x5 : Int32) (x6 : Int32) (x7 : Int32) (x8 : Int32) (H : Heap) (locs : List Loc) (ls : Array Slot), mB D ad cy A s.heap σ H locs → lv_has ls 11 [(0, .ref (ad 0)), (1, .int x1), (2, .int x2), (3, .int x3), (4, .int x4), (5, .int x5), (6, .int x6), (7, .int x7), (8, .int x8)] → lm_parts_78 n k σ x1 x2 x3 x4 x5 x6 x7 x8 = some (r0, σ0) → W p l e rm_parts s m args below meth c H locs 0 0 (MQ below (mQi D ad cy A r0 σ0) args s 0 0 A) (F0 m 78 ls []) := by
  intro k
  induction k with
  | zero =>
    intro σ x1 x2 x3 x4 x5 x6 x7 x8 H locs ls hB hl hf
    have hf : (none : Option (Int32 × MS)) = some (r0, σ0) := hf
    cases hf
  | succ k ih =>
    intro σ x1 x2 x3 x4 x5 x6 x7 x8 H locs ls hB hl hf
    exact tbm_parts_78 hc hK hA n (lm_parts_78 n k) ih σ x1 x2 x3 x4 x5 x6 x7 x8 hB hl hf
def fm_parts (n : Nat) (σ : MS) (x1 : Int32) (x2 : Int32) (x3 : Int32) (x4 : Int32) (x5 : Int32) : Option (Int32 × MS) := bd (fm_isSet n σ x1) (fun r1 σ2 => if (r1 = 0) then (bd (fm_no n σ2 (-1)) (fun r4 σ5 => some (r4, σ5))) else (bd (fm_isSet n σ2 x2) (fun r6 σ7 => if (r6 = 0) then (bd (fm_no n σ7 (-1)) (fun r9 σ10 => some (r9, σ10))) else (bd (fm_isPlate n σ7 x3) (fun r11 σ12 => if (r11 = 0) then (bd (fm_no n σ12 (-1)) (fun r14 σ15 => some (r14, σ15))) else (bd (fm_isFloor n σ12 x4) (fun r16 σ17 => if (r16 = 0) then (bd (fm_no n σ17 (-1)) (fun r30 σ31 => some (r30, σ31))) else (bd (fm_isIn n σ17 x5 0 1) (fun r19 σ20 => if (r19 = 0) then (bd (fm_no n σ20 (-2)) (fun r28 σ29 => some (r28, σ29))) else (if ((σ20.1 0 38) = 0) then (bd (fm_no n σ20 (-3)) (fun r26 σ27 => some (r26, σ27))) else (sq (0 : Int32) (fun y23 => sq ((-1) : Int32) (fun y24 => sq (0 : Int32) (fun y25 => lm_parts_78 n n σ20 x1 x2 x3 x4 x5 y23 y24 y25))))))))))))))
set_option maxRecDepth 100000 in
set_option maxHeartbeats 4000000 in
theorem tbm_parts_0 {p : Program} {l : Launch} {e : Env} {s : State} {m : MethodId} {args : Array Value} {below : List Frame} {meth : Method} {c : Code} {D : va_G} {A : Nat → Prop} {ad : Nat → Nat} {cy : ClassId} {r0 : Int32} {σ0 : MS} (hc : cxB RX8 wsM cX8_parts 11 (some .int) p s m args meth c) (hK : va_K D vwCl [(cy, .int)] s) (hA : ∀ q, s.heap.size ≤ q → A q) (n : Nat) (σ : MS) (x1 : Int32) (x2 : Int32) (x3 : Int32) (x4 : Int32) (x5 : Int32) {H : Heap} {locs : List Loc} {ls : Array Slot} (hB : mB D ad cy A s.heap σ H locs) (hl : lv_has ls 11 [(0, .ref (ad 0)), (1, .int x1), (2, .int x2), (3, .int x3), (4, .int x4), (5, .int x5)]) (hf : fm_parts n σ x1 x2 x3 x4 x5 = some (r0, σ0)) : W p l e rm_parts s m args below meth c H locs 0 0 (MQ below (mQi D ad cy A r0 σ0) args s 0 0 A) (F0 m 0 ls []) := by
  obtain ⟨hx, hb, hml, hown, hts, hr, hlocks⟩ := id hc
  unfold fm_parts at hf
  refine lv_aload_n hx hb dX8_parts_0 rfl (lv_at hl 0 rfl) ?_
  refine lv_iload_n hx hb dX8_parts_1 rfl (lv_at hl 1 rfl) ?_
  obtain ⟨r1, σ2, hkr1, hf⟩ := bd_e hf
  refine rm_calliV (av := [.int x1]) (rest := []) hx hb hml hown hts hl.1 hK hA hB (cm_isSet l D ad cy n σ x1 hkr1) (kw_isSet hts ⟨Nat.le_of_ble_eq_true rfl, Nat.le_of_ble_eq_true rfl⟩) rfl rfl (lv_room (Nat.le_of_ble_eq_true rfl)) dX8_parts_2 (Nat.le_refl _) (Nat.le_refl _) (fun H locs hB => ?_)
  refine lv_if_eq (tgt := 32) hx hb dX8_parts_5 (by decide) (fun c3 => ?_) (fun c3 => ?_)
  · have hf := it_t hf c3
    refine lv_aload_n hx hb dX8_parts_32 rfl (lv_at hl 0 rfl) ?_
    refine lv_iconst (v := (-1)) hx hb dX8_parts_33 (by decide) ?_
    obtain ⟨r4, σ5, hkr4, hf⟩ := bd_e hf
    refine rm_calliV (av := [.int (-1)]) (rest := []) hx hb hml hown hts hl.1 hK hA hB (cm_no l D ad cy n σ2 (-1) hkr4) (kw_no hts ⟨Nat.le_of_ble_eq_true rfl, Nat.le_of_ble_eq_true rfl⟩) rfl rfl (lv_room (Nat.le_of_ble_eq_true rfl)) dX8_parts_34 (Nat.le_refl _) (Nat.le_refl _) (fun H locs hB => ?_)
    obtain ⟨rfl, rfl⟩ := so_e hf
    exact rm_iret hx hb hr hlocks hK hB dX8_parts_37
  · have hf := it_f hf c3
    refine lv_aload_n hx hb dX8_parts_8 rfl (lv_at hl 0 rfl) ?_
    refine lv_iload_n hx hb dX8_parts_9 rfl (lv_at hl 2 rfl) ?_
    obtain ⟨r6, σ7, hkr6, hf⟩ := bd_e hf
    refine rm_calliV (av := [.int x2]) (rest := []) hx hb hml hown hts hl.1 hK hA hB (cm_isSet l D ad cy n σ2 x2 hkr6) (kw_isSet hts ⟨Nat.le_of_ble_eq_true rfl, Nat.le_of_ble_eq_true rfl⟩) rfl rfl (lv_room (Nat.le_of_ble_eq_true rfl)) dX8_parts_10 (Nat.le_refl _) (Nat.le_refl _) (fun H locs hB => ?_)
    refine lv_if_eq (tgt := 32) hx hb dX8_parts_13 (by decide) (fun c8 => ?_) (fun c8 => ?_)
    · have hf := it_t hf c8
      refine lv_aload_n hx hb dX8_parts_32 rfl (lv_at hl 0 rfl) ?_
      refine lv_iconst (v := (-1)) hx hb dX8_parts_33 (by decide) ?_
      obtain ⟨r9, σ10, hkr9, hf⟩ := bd_e hf
      refine rm_calliV (av := [.int (-1)]) (rest := []) hx hb hml hown hts hl.1 hK hA hB (cm_no l D ad cy n σ7 (-1) hkr9) (kw_no hts ⟨Nat.le_of_ble_eq_true rfl, Nat.le_of_ble_eq_true rfl⟩) rfl rfl (lv_room (Nat.le_of_ble_eq_true rfl)) dX8_parts_34 (Nat.le_refl _) (Nat.le_refl _) (fun H locs hB => ?_)
      obtain ⟨rfl, rfl⟩ := so_e hf
      exact rm_iret hx hb hr hlocks hK hB dX8_parts_37
    · have hf := it_f hf c8
      refine lv_aload_n hx hb dX8_parts_16 rfl (lv_at hl 0 rfl) ?_
      refine lv_iload_n hx hb dX8_parts_17 rfl (lv_at hl 3 rfl) ?_
      obtain ⟨r11, σ12, hkr11, hf⟩ := bd_e hf
      refine rm_calliV (av := [.int x3]) (rest := []) hx hb hml hown hts hl.1 hK hA hB (cm_isPlate l D ad cy n σ7 x3 hkr11) (kw_isPlate hts ⟨Nat.le_of_ble_eq_true rfl, Nat.le_of_ble_eq_true rfl⟩) rfl rfl (lv_room (Nat.le_of_ble_eq_true rfl)) dX8_parts_18 (Nat.le_refl _) (Nat.le_refl _) (fun H locs hB => ?_)
      refine lv_if_eq (tgt := 32) hx hb dX8_parts_21 (by decide) (fun c13 => ?_) (fun c13 => ?_)
      · have hf := it_t hf c13
        refine lv_aload_n hx hb dX8_parts_32 rfl (lv_at hl 0 rfl) ?_
        refine lv_iconst (v := (-1)) hx hb dX8_parts_33 (by decide) ?_
        obtain ⟨r14, σ15, hkr14, hf⟩ := bd_e hf
        refine rm_calliV (av := [.int (-1)]) (rest := []) hx hb hml hown hts hl.1 hK hA hB (cm_no l D ad cy n σ12 (-1) hkr14) (kw_no hts ⟨Nat.le_of_ble_eq_true rfl, Nat.le_of_ble_eq_true rfl⟩) rfl rfl (lv_room (Nat.le_of_ble_eq_true rfl)) dX8_parts_34 (Nat.le_refl _) (Nat.le_refl _) (fun H locs hB => ?_)
        obtain ⟨rfl, rfl⟩ := so_e hf
        exact rm_iret hx hb hr hlocks hK hB dX8_parts_37
      · have hf := it_f hf c13
        refine lv_iload hx hb dX8_parts_24 (lv_at hl 4 rfl) ?_
        obtain ⟨r16, σ17, hkr16, hf⟩ := bd_e hf
        refine rm_calliS (av := [.int x4]) (rest := []) hx hb hml hown hts hl.1 hK hA hB (cm_isFloor l D ad cy n σ12 x4 hkr16) (kw_isFloor hts ⟨Nat.le_of_ble_eq_true rfl, Nat.le_of_ble_eq_true rfl⟩) rfl rfl (lv_room (Nat.le_of_ble_eq_true rfl)) dX8_parts_26 (Nat.le_refl _) (Nat.le_refl _) (fun H locs hB => ?_)
        refine lv_if_ne (tgt := 38) hx hb dX8_parts_29 (by decide) (fun c18 => ?_) (fun c18 => ?_)
        · have hf := it_f hf c18
          refine lv_iload hx hb dX8_parts_38 (lv_at hl 5 rfl) ?_
          refine lv_iconst (v := 0) hx hb dX8_parts_40 (by decide) ?_
          refine lv_iconst (v := 1) hx hb dX8_parts_41 (by decide) ?_
          obtain ⟨r19, σ20, hkr19, hf⟩ := bd_e hf
          refine rm_calliS (av := [.int x5, .int 0, .int 1]) (rest := []) hx hb hml hown hts hl.1 hK hA hB (cm_isIn l D ad cy n σ17 x5 0 1 hkr19) (kw_isIn hts ⟨Nat.le_of_ble_eq_true rfl, Nat.le_of_ble_eq_true rfl⟩) rfl rfl (lv_room (Nat.le_of_ble_eq_true rfl)) dX8_parts_42 (Nat.le_refl _) (Nat.le_refl _) (fun H locs hB => ?_)
          refine lv_if_ne (tgt := 55) hx hb dX8_parts_45 (by decide) (fun c21 => ?_) (fun c21 => ?_)
          · have hf := it_f hf c21
            refine lv_aload_n hx hb dX8_parts_55 rfl (lv_at hl 0 rfl) ?_
            refine rm_get hx hb hts inM hown hK hB 38 (Nat.le_of_ble_eq_true rfl) qf_253 rfl dX8_parts_56 ?_
            refine lv_if_ne (tgt := 69) hx hb dX8_parts_59 (by decide) (fun c22 => ?_) (fun c22 => ?_)
            · have hf := it_f hf c22
              refine lv_iconst (v := 0) hx hb dX8_parts_69 (by decide) ?_
              refine lv_topi (fun y23 ey23 => ?_)
              have hf := sq_e hf y23 ey23
              refine lv_istore (lv' := [(6, .int y23), (0, .ref (ad 0)), (1, .int x1), (2, .int x2), (3, .int x3), (4, .int x4), (5, .int x5)]) hx hb dX8_parts_70 hl (by decide) rfl (fun ls hl => ?_)
              refine lv_iconst (v := (-1)) hx hb dX8_parts_72 (by decide) ?_
              refine lv_topi (fun y24 ey24 => ?_)
              have hf := sq_e hf y24 ey24
              refine lv_istore (lv' := [(7, .int y24), (6, .int y23), (0, .ref (ad 0)), (1, .int x1), (2, .int x2), (3, .int x3), (4, .int x4), (5, .int x5)]) hx hb dX8_parts_73 hl (by decide) rfl (fun ls hl => ?_)
              refine lv_iconst (v := 0) hx hb dX8_parts_75 (by decide) ?_
              refine lv_topi (fun y25 ey25 => ?_)
              have hf := sq_e hf y25 ey25
              refine lv_istore (lv' := [(8, .int y25), (7, .int y24), (6, .int y23), (0, .ref (ad 0)), (1, .int x1), (2, .int x2), (3, .int x3), (4, .int x4), (5, .int x5)]) hx hb dX8_parts_76 hl (by decide) rfl (fun ls hl => ?_)
              exact tlm_parts_78 hc hK hA n n σ20 x1 x2 x3 x4 x5 y23 y24 y25 _ _ _ hB (lv_sub hl [3, 4, 5, 6, 7, 8, 2, 1, 0] rfl) hf
            · have hf := it_t hf c22
              refine lv_aload_n hx hb dX8_parts_62 rfl (lv_at hl 0 rfl) ?_
              refine lv_bipush (v := (-3)) hx hb dX8_parts_63 (by decide) ?_
              obtain ⟨r26, σ27, hkr26, hf⟩ := bd_e hf
              refine rm_calliV (av := [.int (-3)]) (rest := []) hx hb hml hown hts hl.1 hK hA hB (cm_no l D ad cy n σ20 (-3) hkr26) (kw_no hts ⟨Nat.le_of_ble_eq_true rfl, Nat.le_of_ble_eq_true rfl⟩) rfl rfl (lv_room (Nat.le_of_ble_eq_true rfl)) dX8_parts_65 (Nat.le_refl _) (Nat.le_refl _) (fun H locs hB => ?_)
              obtain ⟨rfl, rfl⟩ := so_e hf
              exact rm_iret hx hb hr hlocks hK hB dX8_parts_68
          · have hf := it_t hf c21
            refine lv_aload_n hx hb dX8_parts_48 rfl (lv_at hl 0 rfl) ?_
            refine lv_bipush (v := (-2)) hx hb dX8_parts_49 (by decide) ?_
            obtain ⟨r28, σ29, hkr28, hf⟩ := bd_e hf
            refine rm_calliV (av := [.int (-2)]) (rest := []) hx hb hml hown hts hl.1 hK hA hB (cm_no l D ad cy n σ20 (-2) hkr28) (kw_no hts ⟨Nat.le_of_ble_eq_true rfl, Nat.le_of_ble_eq_true rfl⟩) rfl rfl (lv_room (Nat.le_of_ble_eq_true rfl)) dX8_parts_51 (Nat.le_refl _) (Nat.le_refl _) (fun H locs hB => ?_)
            obtain ⟨rfl, rfl⟩ := so_e hf
            exact rm_iret hx hb hr hlocks hK hB dX8_parts_54
        · have hf := it_t hf c18
          refine lv_aload_n hx hb dX8_parts_32 rfl (lv_at hl 0 rfl) ?_
          refine lv_iconst (v := (-1)) hx hb dX8_parts_33 (by decide) ?_
          obtain ⟨r30, σ31, hkr30, hf⟩ := bd_e hf
          refine rm_calliV (av := [.int (-1)]) (rest := []) hx hb hml hown hts hl.1 hK hA hB (cm_no l D ad cy n σ17 (-1) hkr30) (kw_no hts ⟨Nat.le_of_ble_eq_true rfl, Nat.le_of_ble_eq_true rfl⟩) rfl rfl (lv_room (Nat.le_of_ble_eq_true rfl)) dX8_parts_34 (Nat.le_refl _) (Nat.le_refl _) (fun H locs hB => ?_)
          obtain ⟨rfl, rfl⟩ := so_e hf
          exact rm_iret hx hb hr hlocks hK hB dX8_parts_37
theorem cm_parts (l : Launch) (D : va_G) (ad : Nat → Nat) (cy : ClassId) (n : Nat) (σ : MS) (x1 : Int32) (x2 : Int32) (x3 : Int32) (x4 : Int32) (x5 : Int32) {r0 : Int32} {σ0 : MS} (hf : fm_parts n σ x1 x2 x3 x4 x5 = some (r0, σ0)) : mMi l yX8_parts wn_parts rm_parts D ad cy [.ref (ad 0), .int x1, .int x2, .int x3, .int x4, .int x5] σ r0 σ0 :=
  rm_meti (ret := (some .int)) (by decide) rfl (Nat.le_of_ble_eq_true rfl) (fun p e s m below meth c A ls hc hK hA hB hl => tbm_parts_0 hc hK hA n σ x1 x2 x3 x4 x5 hB hl hf)
/-! longest -/
abbrev rm_longest : Room := { frames := 7, cells := 0, slots := 0, locals := 169 }
abbrev wn_longest : List Cond := .code yX8_longest cX8_longest 9 (some .int) :: wsM
def bm_longest_96 (n : Nat) (K48 : MS → Int32 → Int32 → Int32 → Int32 → Int32 → Int32 → Option (Int32 × MS)) (σ : MS) (x1 : Int32) (x2 : Int32) (x3 : Int32) (x7 : Int32) (x8 : Int32) : Option (Int32 × MS) := sq (x7 + 1 : Int32) (fun y1 => K48 σ x1 x2 x3 x7 x8 y1)
set_option maxRecDepth 100000 in
set_option maxHeartbeats 4000000 in
theorem tbm_longest_96 {p : Program} {l : Launch} {e : Env} {s : State} {m : MethodId} {args : Array Value} {below : List Frame} {meth : Method} {c : Code} {D : va_G} {A : Nat → Prop} {ad : Nat → Nat} {cy : ClassId} {r0 : Int32} {σ0 : MS} (hc : cxB RX8 wsM cX8_longest 9 (some .int) p s m args meth c) (hK : va_K D vwCl [(cy, .int)] s) (hA : ∀ q, s.heap.size ≤ q → A q) (n : Nat) (K48 : MS → Int32 → Int32 → Int32 → Int32 → Int32 → Int32 → Option (Int32 × MS)) (hK48 : ∀ (σ : MS) (x1 : Int32) (x2 : Int32) (x3 : Int32) (x5 : Int32) (x6 : Int32) (x7 : Int32) (H : Heap) (locs : List Loc) (ls : Array Slot), mB D ad cy A s.heap σ H locs → lv_has ls 9 [(0, .ref (ad 0)), (1, .int x1), (2, .int x2), (3, .int x3), (5, .int x5), (6, .int x6), (7, .int x7)] → K48 σ x1 x2 x3 x5 x6 x7 = some (r0, σ0) → W p l e rm_longest s m args below meth c H locs 0 0 (MQ below (mQi D ad cy A r0 σ0) args s 0 0 A) (F0 m 48 ls [])) (σ : MS) (x1 : Int32) (x2 : Int32) (x3 : Int32) (x7 : Int32) (x8 : Int32) {H : Heap} {locs : List Loc} {ls : Array Slot} (hB : mB D ad cy A s.heap σ H locs) (hl : lv_has ls 9 [(0, .ref (ad 0)), (1, .int x1), (2, .int x2), (3, .int x3), (7, .int x7), (8, .int x8)]) (hf : bm_longest_96 n K48 σ x1 x2 x3 x7 x8 = some (r0, σ0)) : W p l e rm_longest s m args below meth c H locs 0 0 (MQ below (mQi D ad cy A r0 σ0) args s 0 0 A) (F0 m 96 ls []) := by
  obtain ⟨hx, hb, hml, hown, hts, hr, hlocks⟩ := id hc
  unfold bm_longest_96 at hf
  refine lv_iload hx hb dX8_longest_96 (lv_at hl 4 rfl) ?_
  refine lv_istore (lv' := [(5, .int x7), (0, .ref (ad 0)), (1, .int x1), (2, .int x2), (3, .int x3), (7, .int x7), (8, .int x8)]) hx hb dX8_longest_98 hl (by decide) rfl (fun ls hl => ?_)
  refine lv_iload hx hb dX8_longest_100 (lv_at hl 6 rfl) ?_
  refine lv_istore (lv' := [(6, .int x8), (5, .int x7), (0, .ref (ad 0)), (1, .int x1), (2, .int x2), (3, .int x3), (7, .int x7), (8, .int x8)]) hx hb dX8_longest_102 hl (by decide) rfl (fun ls hl => ?_)
  obtain ⟨y1, ey1⟩ : ∃ z : Int32, z = x7 + 1 := ⟨_, rfl⟩
  have hf := sq_e hf y1 ey1
  refine lv_iinc (v := y1) (lv' := [(7, .int y1), (6, .int x8), (5, .int x7), (0, .ref (ad 0)), (1, .int x1), (2, .int x2), (3, .int x3), (8, .int x8)]) hx hb dX8_longest_104 hl (k := 6) rfl (by rw [ey1]; rfl) (by decide) rfl (fun ls hl => ?_)
  refine lv_goto (tgt := 48) hx hb dX8_longest_107 (by decide) ?_
  exact hK48 σ x1 x2 x3 x7 x8 y1 _ _ _ hB (lv_sub hl [3, 4, 5, 6, 2, 1, 0] rfl) hf
def bm_longest_48 (n : Nat) (K48 : MS → Int32 → Int32 → Int32 → Int32 → Int32 → Int32 → Option (Int32 × MS)) (σ : MS) (x1 : Int32) (x2 : Int32) (x3 : Int32) (x5 : Int32) (x6 : Int32) (x7 : Int32) : Option (Int32 × MS) := if ((σ.1 0 11) ≤ x7) then (some (x5, σ)) else (ck (ib x7 7) (sq ((σ.1 3 (Int32.toNatClampNeg x7)) : Int32) (fun y3 => if (y3 ≤ x1) then (bd (fm_lastsOf n σ x7 x2 x3) (fun r5 σ6 => if (x5 < 0) then (bm_longest_96 n K48 σ6 x1 x2 x3 x7 r5) else (if (x6 < r5) then (bm_longest_96 n K48 σ6 x1 x2 x3 x7 r5) else (sq (x7 + 1 : Int32) (fun y9 => K48 σ6 x1 x2 x3 x5 x6 y9))))) else (sq (x7 + 1 : Int32) (fun y10 => K48 σ x1 x2 x3 x5 x6 y10)))))
set_option maxRecDepth 100000 in
set_option maxHeartbeats 4000000 in
theorem tbm_longest_48 {p : Program} {l : Launch} {e : Env} {s : State} {m : MethodId} {args : Array Value} {below : List Frame} {meth : Method} {c : Code} {D : va_G} {A : Nat → Prop} {ad : Nat → Nat} {cy : ClassId} {r0 : Int32} {σ0 : MS} (hc : cxB RX8 wsM cX8_longest 9 (some .int) p s m args meth c) (hK : va_K D vwCl [(cy, .int)] s) (hA : ∀ q, s.heap.size ≤ q → A q) (n : Nat) (K48 : MS → Int32 → Int32 → Int32 → Int32 → Int32 → Int32 → Option (Int32 × MS)) (hK48 : ∀ (σ : MS) (x1 : Int32) (x2 : Int32) (x3 : Int32) (x5 : Int32) (x6 : Int32) (x7 : Int32) (H : Heap) (locs : List Loc) (ls : Array Slot), mB D ad cy A s.heap σ H locs → lv_has ls 9 [(0, .ref (ad 0)), (1, .int x1), (2, .int x2), (3, .int x3), (5, .int x5), (6, .int x6), (7, .int x7)] → K48 σ x1 x2 x3 x5 x6 x7 = some (r0, σ0) → W p l e rm_longest s m args below meth c H locs 0 0 (MQ below (mQi D ad cy A r0 σ0) args s 0 0 A) (F0 m 48 ls [])) (σ : MS) (x1 : Int32) (x2 : Int32) (x3 : Int32) (x5 : Int32) (x6 : Int32) (x7 : Int32) {H : Heap} {locs : List Loc} {ls : Array Slot} (hB : mB D ad cy A s.heap σ H locs) (hl : lv_has ls 9 [(0, .ref (ad 0)), (1, .int x1), (2, .int x2), (3, .int x3), (5, .int x5), (6, .int x6), (7, .int x7)]) (hf : bm_longest_48 n K48 σ x1 x2 x3 x5 x6 x7 = some (r0, σ0)) : W p l e rm_longest s m args below meth c H locs 0 0 (MQ below (mQi D ad cy A r0 σ0) args s 0 0 A) (F0 m 48 ls []) := by
  obtain ⟨hx, hb, hml, hown, hts, hr, hlocks⟩ := id hc
  unfold bm_longest_48 at hf
  refine lv_iload hx hb dX8_longest_48 (lv_at hl 6 rfl) ?_
  refine lv_aload_n hx hb dX8_longest_50 rfl (lv_at hl 0 rfl) ?_
  refine rm_get hx hb hts inM hown hK hB 11 (Nat.le_of_ble_eq_true rfl) qf_123 rfl dX8_longest_51 ?_
  refine lv_icmp_ge (tgt := 110) hx hb dX8_longest_54 (by decide) (fun c1 => ?_) (fun c1 => ?_)
  · have hf := it_t hf c1
    refine lv_iload hx hb dX8_longest_110 (lv_at hl 4 rfl) ?_
    obtain ⟨rfl, rfl⟩ := so_e hf
    exact rm_iret hx hb hr hlocks hK hB dX8_longest_112
  · have hf := it_f hf c1
    refine lv_aload_n hx hb dX8_longest_57 rfl (lv_at hl 0 rfl) ?_
    refine rm_get hx hb hts inM hown hK hB 2 (Nat.le_of_ble_eq_true rfl) qf_16 rfl dX8_longest_58 ?_
    refine lv_iload hx hb dX8_longest_61 (lv_at hl 6 rfl) ?_
    obtain ⟨k2, hf⟩ := ck_e hf
    refine rm_ald hx hb hK hB 3 rfl k2 dX8_longest_63 ?_
    refine lv_topi (fun y3 ey3 => ?_)
    have hf := sq_e hf y3 ey3
    refine lv_iload_n hx hb dX8_longest_64 rfl (lv_at hl 1 rfl) ?_
    refine lv_icmp_le (tgt := 71) hx hb dX8_longest_65 (by decide) (fun c4 => ?_) (fun c4 => ?_)
    · have hf := it_t hf c4
      refine lv_aload_n hx hb dX8_longest_71 rfl (lv_at hl 0 rfl) ?_
      refine lv_iload hx hb dX8_longest_72 (lv_at hl 6 rfl) ?_
      refine lv_iload_n hx hb dX8_longest_74 rfl (lv_at hl 2 rfl) ?_
      refine lv_iload_n hx hb dX8_longest_75 rfl (lv_at hl 3 rfl) ?_
      obtain ⟨r5, σ6, hkr5, hf⟩ := bd_e hf
      refine rm_calliV (av := [.int x7, .int x2, .int x3]) (rest := []) hx hb hml hown hts hl.1 hK hA hB (cm_lastsOf l D ad cy n σ x7 x2 x3 hkr5) (kw_lastsOf hts ⟨Nat.le_of_ble_eq_true rfl, Nat.le_of_ble_eq_true rfl⟩) rfl rfl (lv_room (Nat.le_of_ble_eq_true rfl)) dX8_longest_76 (Nat.le_refl _) (Nat.le_refl _) (fun H locs hB => ?_)
      refine lv_istore (lv' := [(8, .int r5), (0, .ref (ad 0)), (1, .int x1), (2, .int x2), (3, .int x3), (5, .int x5), (6, .int x6), (7, .int x7)]) hx hb dX8_longest_79 hl (by decide) rfl (fun ls hl => ?_)
      refine lv_iload hx hb dX8_longest_81 (lv_at hl 5 rfl) ?_
      refine lv_if_lt (tgt := 96) hx hb dX8_longest_83 (by decide) (fun c7 => ?_) (fun c7 => ?_)
      · have hf := it_t hf c7
        exact tbm_longest_96 hc hK hA n K48 hK48 σ6 x1 x2 x3 x7 r5 hB (lv_sub hl [1, 2, 3, 4, 7, 0] rfl) hf
      · have hf := it_f hf c7
        refine lv_iload hx hb dX8_longest_86 (lv_at hl 0 rfl) ?_
        refine lv_iload hx hb dX8_longest_88 (lv_at hl 6 rfl) ?_
        refine lv_icmp_gt (tgt := 96) hx hb dX8_longest_90 (by decide) (fun c8 => ?_) (fun c8 => ?_)
        · have hf := it_t hf c8
          exact tbm_longest_96 hc hK hA n K48 hK48 σ6 x1 x2 x3 x7 r5 hB (lv_sub hl [1, 2, 3, 4, 7, 0] rfl) hf
        · have hf := it_f hf c8
          refine lv_goto (tgt := 104) hx hb dX8_longest_93 (by decide) ?_
          obtain ⟨y9, ey9⟩ : ∃ z : Int32, z = x7 + 1 := ⟨_, rfl⟩
          have hf := sq_e hf y9 ey9
          refine lv_iinc (v := y9) (lv' := [(7, .int y9), (8, .int r5), (0, .ref (ad 0)), (1, .int x1), (2, .int x2), (3, .int x3), (5, .int x5), (6, .int x6)]) hx hb dX8_longest_104 hl (k := 7) rfl (by rw [ey9]; rfl) (by decide) rfl (fun ls hl => ?_)
          refine lv_goto (tgt := 48) hx hb dX8_longest_107 (by decide) ?_
          exact hK48 σ6 x1 x2 x3 x5 x6 y9 _ _ _ hB (lv_sub hl [2, 3, 4, 5, 6, 7, 0] rfl) hf
    · have hf := it_f hf c4
      refine lv_goto (tgt := 104) hx hb dX8_longest_68 (by decide) ?_
      obtain ⟨y10, ey10⟩ : ∃ z : Int32, z = x7 + 1 := ⟨_, rfl⟩
      have hf := sq_e hf y10 ey10
      refine lv_iinc (v := y10) (lv' := [(7, .int y10), (0, .ref (ad 0)), (1, .int x1), (2, .int x2), (3, .int x3), (5, .int x5), (6, .int x6)]) hx hb dX8_longest_104 hl (k := 6) rfl (by rw [ey10]; rfl) (by decide) rfl (fun ls hl => ?_)
      refine lv_goto (tgt := 48) hx hb dX8_longest_107 (by decide) ?_
      exact hK48 σ x1 x2 x3 x5 x6 y10 _ _ _ hB (lv_sub hl [1, 2, 3, 4, 5, 6, 0] rfl) hf
def lm_longest_48 (n : Nat) : Nat → MS → Int32 → Int32 → Int32 → Int32 → Int32 → Int32 → Option (Int32 × MS)
  | 0 => fun _ _ _ _ _ _ _ => none
  | k + 1 => bm_longest_48 n (lm_longest_48 n k)
theorem tlm_longest_48 {p : Program} {l : Launch} {e : Env} {s : State} {m : MethodId} {args : Array Value} {below : List Frame} {meth : Method} {c : Code} {D : va_G} {A : Nat → Prop} {ad : Nat → Nat} {cy : ClassId} {r0 : Int32} {σ0 : MS} (hc : cxB RX8 wsM cX8_longest 9 (some .int) p s m args meth c) (hK : va_K D vwCl [(cy, .int)] s) (hA : ∀ q, s.heap.size ≤ q → A q) (n : Nat) : ∀ (k : Nat) (σ : MS) (x1 : Int32) (x2 : Int32) (x3 : Int32) (x5 : Int32) (x6 : Int32) (x7 : Int32) (H : Heap) (locs : List Loc) (ls : Array Slot), mB D ad cy A s.heap σ H locs → lv_has ls 9 [(0, .ref (ad 0)), (1, .int x1), (2, .int x2), (3, .int x3), (5, .int x5), (6, .int x6), (7, .int x7)] → lm_longest_48 n k σ x1 x2 x3 x5 x6 x7 = some (r0, σ0) → W p l e rm_longest s m args below meth c H locs 0 0 (MQ below (mQi D ad cy A r0 σ0) args s 0 0 A) (F0 m 48 ls []) := by
  intro k
  induction k with
  | zero =>
    intro σ x1 x2 x3 x5 x6 x7 H locs ls hB hl hf
    have hf : (none : Option (Int32 × MS)) = some (r0, σ0) := hf
    cases hf
  | succ k ih =>
    intro σ x1 x2 x3 x5 x6 x7 H locs ls hB hl hf
    exact tbm_longest_48 hc hK hA n (lm_longest_48 n k) ih σ x1 x2 x3 x5 x6 x7 hB hl hf
def fm_longest (n : Nat) (σ : MS) (x1 : Int32) (x2 : Int32) (x3 : Int32) : Option (Int32 × MS) := bd (fm_isFloor n σ x3) (fun r1 σ2 => if (r1 = 0) then (bd (fm_no n σ2 (-1)) (fun r12 σ13 => some (r12, σ13))) else (bd (fm_bounds n σ2 x1 999 x2 9000) (fun r4 σ5 => if (r4 = 0) then (sq ((-9) : Int32) (fun y7 => sq (0 : Int32) (fun y8 => sq (0 : Int32) (fun y9 => lm_longest_48 n n σ5 x1 x2 x3 y7 y8 y9)))) else (bd (fm_no n σ5 r4) (fun r10 σ11 => some (r10, σ11))))))
set_option maxRecDepth 100000 in
set_option maxHeartbeats 4000000 in
theorem tbm_longest_0 {p : Program} {l : Launch} {e : Env} {s : State} {m : MethodId} {args : Array Value} {below : List Frame} {meth : Method} {c : Code} {D : va_G} {A : Nat → Prop} {ad : Nat → Nat} {cy : ClassId} {r0 : Int32} {σ0 : MS} (hc : cxB RX8 wsM cX8_longest 9 (some .int) p s m args meth c) (hK : va_K D vwCl [(cy, .int)] s) (hA : ∀ q, s.heap.size ≤ q → A q) (n : Nat) (σ : MS) (x1 : Int32) (x2 : Int32) (x3 : Int32) {H : Heap} {locs : List Loc} {ls : Array Slot} (hB : mB D ad cy A s.heap σ H locs) (hl : lv_has ls 9 [(0, .ref (ad 0)), (1, .int x1), (2, .int x2), (3, .int x3)]) (hf : fm_longest n σ x1 x2 x3 = some (r0, σ0)) : W p l e rm_longest s m args below meth c H locs 0 0 (MQ below (mQi D ad cy A r0 σ0) args s 0 0 A) (F0 m 0 ls []) := by
  obtain ⟨hx, hb, hml, hown, hts, hr, hlocks⟩ := id hc
  unfold fm_longest at hf
  refine lv_iload_n hx hb dX8_longest_0 rfl (lv_at hl 3 rfl) ?_
  obtain ⟨r1, σ2, hkr1, hf⟩ := bd_e hf
  refine rm_calliS (av := [.int x3]) (rest := []) hx hb hml hown hts hl.1 hK hA hB (cm_isFloor l D ad cy n σ x3 hkr1) (kw_isFloor hts ⟨Nat.le_of_ble_eq_true rfl, Nat.le_of_ble_eq_true rfl⟩) rfl rfl (lv_room (Nat.le_of_ble_eq_true rfl)) dX8_longest_1 (Nat.le_refl _) (Nat.le_refl _) (fun H locs hB => ?_)
  refine lv_if_ne (tgt := 13) hx hb dX8_longest_4 (by decide) (fun c3 => ?_) (fun c3 => ?_)
  · have hf := it_f hf c3
    refine lv_iload_n hx hb dX8_longest_13 rfl (lv_at hl 1 rfl) ?_
    refine lv_sipush (v := 999) hx hb dX8_longest_14 (by decide) ?_
    refine lv_iload_n hx hb dX8_longest_17 rfl (lv_at hl 2 rfl) ?_
    refine lv_sipush (v := 9000) hx hb dX8_longest_18 (by decide) ?_
    obtain ⟨r4, σ5, hkr4, hf⟩ := bd_e hf
    refine rm_calliS (av := [.int x1, .int 999, .int x2, .int 9000]) (rest := []) hx hb hml hown hts hl.1 hK hA hB (cm_bounds l D ad cy n σ2 x1 999 x2 9000 hkr4) (kw_bounds hts ⟨Nat.le_of_ble_eq_true rfl, Nat.le_of_ble_eq_true rfl⟩) rfl rfl (lv_room (Nat.le_of_ble_eq_true rfl)) dX8_longest_21 (Nat.le_refl _) (Nat.le_refl _) (fun H locs hB => ?_)
    refine lv_istore (lv' := [(4, .int r4), (0, .ref (ad 0)), (1, .int x1), (2, .int x2), (3, .int x3)]) hx hb dX8_longest_24 hl (by decide) rfl (fun ls hl => ?_)
    refine lv_iload hx hb dX8_longest_26 (lv_at hl 0 rfl) ?_
    refine lv_if_eq (tgt := 38) hx hb dX8_longest_28 (by decide) (fun c6 => ?_) (fun c6 => ?_)
    · have hf := it_t hf c6
      refine lv_bipush (v := (-9)) hx hb dX8_longest_38 (by decide) ?_
      refine lv_topi (fun y7 ey7 => ?_)
      have hf := sq_e hf y7 ey7
      refine lv_istore (lv' := [(5, .int y7), (4, .int r4), (0, .ref (ad 0)), (1, .int x1), (2, .int x2), (3, .int x3)]) hx hb dX8_longest_40 hl (by decide) rfl (fun ls hl => ?_)
      refine lv_iconst (v := 0) hx hb dX8_longest_42 (by decide) ?_
      refine lv_topi (fun y8 ey8 => ?_)
      have hf := sq_e hf y8 ey8
      refine lv_istore (lv' := [(6, .int y8), (5, .int y7), (4, .int r4), (0, .ref (ad 0)), (1, .int x1), (2, .int x2), (3, .int x3)]) hx hb dX8_longest_43 hl (by decide) rfl (fun ls hl => ?_)
      refine lv_iconst (v := 0) hx hb dX8_longest_45 (by decide) ?_
      refine lv_topi (fun y9 ey9 => ?_)
      have hf := sq_e hf y9 ey9
      refine lv_istore (lv' := [(7, .int y9), (6, .int y8), (5, .int y7), (4, .int r4), (0, .ref (ad 0)), (1, .int x1), (2, .int x2), (3, .int x3)]) hx hb dX8_longest_46 hl (by decide) rfl (fun ls hl => ?_)
      exact tlm_longest_48 hc hK hA n n σ5 x1 x2 x3 y7 y8 y9 _ _ _ hB (lv_sub hl [4, 5, 6, 7, 2, 1, 0] rfl) hf
    · have hf := it_f hf c6
      refine lv_aload_n hx hb dX8_longest_31 rfl (lv_at hl 1 rfl) ?_
      refine lv_iload hx hb dX8_longest_32 (lv_at hl 0 rfl) ?_
      obtain ⟨r10, σ11, hkr10, hf⟩ := bd_e hf
      refine rm_calliV (av := [.int r4]) (rest := []) hx hb hml hown hts hl.1 hK hA hB (cm_no l D ad cy n σ5 r4 hkr10) (kw_no hts ⟨Nat.le_of_ble_eq_true rfl, Nat.le_of_ble_eq_true rfl⟩) rfl rfl (lv_room (Nat.le_of_ble_eq_true rfl)) dX8_longest_34 (Nat.le_refl _) (Nat.le_refl _) (fun H locs hB => ?_)
      obtain ⟨rfl, rfl⟩ := so_e hf
      exact rm_iret hx hb hr hlocks hK hB dX8_longest_37
  · have hf := it_t hf c3
    refine lv_aload_n hx hb dX8_longest_7 rfl (lv_at hl 0 rfl) ?_
    refine lv_iconst (v := (-1)) hx hb dX8_longest_8 (by decide) ?_
    obtain ⟨r12, σ13, hkr12, hf⟩ := bd_e hf
    refine rm_calliV (av := [.int (-1)]) (rest := []) hx hb hml hown hts hl.1 hK hA hB (cm_no l D ad cy n σ2 (-1) hkr12) (kw_no hts ⟨Nat.le_of_ble_eq_true rfl, Nat.le_of_ble_eq_true rfl⟩) rfl rfl (lv_room (Nat.le_of_ble_eq_true rfl)) dX8_longest_9 (Nat.le_refl _) (Nat.le_refl _) (fun H locs hB => ?_)
    obtain ⟨rfl, rfl⟩ := so_e hf
    exact rm_iret hx hb hr hlocks hK hB dX8_longest_12
theorem cm_longest (l : Launch) (D : va_G) (ad : Nat → Nat) (cy : ClassId) (n : Nat) (σ : MS) (x1 : Int32) (x2 : Int32) (x3 : Int32) {r0 : Int32} {σ0 : MS} (hf : fm_longest n σ x1 x2 x3 = some (r0, σ0)) : mMi l yX8_longest wn_longest rm_longest D ad cy [.ref (ad 0), .int x1, .int x2, .int x3] σ r0 σ0 :=
  rm_meti (ret := (some .int)) (by decide) rfl (Nat.le_of_ble_eq_true rfl) (fun p e s m below meth c A ls hc hK hA hB hl => tbm_longest_0 hc hK hA n σ x1 x2 x3 hB hl hf)
