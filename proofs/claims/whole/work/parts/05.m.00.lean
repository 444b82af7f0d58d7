/-! no -/
abbrev rm_no : Room := { frames := 0, cells := 0, slots := 0, locals := 0 }
abbrev wn_no : List Cond := .code yX8_no cX8_no 2 (some .int) :: wsM
def fm_no (n : Nat) (σ : MS) (x1 : Int32) : Option (Int32 × MS) := ck (ib (-x1) 7) (sq ((σ.1 1 (Int32.toNatClampNeg (-x1))) : Int32) (fun y2 => ck (ib (-x1) 7) (sq (mp σ 1 (Int32.toNatClampNeg (-x1)) (y2 + 1)) (fun σ4 => some (x1, σ4)))))
set_option maxRecDepth 100000 in
set_option maxHeartbeats 4000000 in
theorem tbm_no_0 {p : Program} {l : Launch} {e : Env} {s : State} {m : MethodId} {args : Array Value} {below : List Frame} {meth : Method} {c : Code} {D : va_G} {A : Nat → Prop} {ad : Nat → Nat} {cy : ClassId} {r0 : Int32} {σ0 : MS} (hc : cxB RX8 wsM cX8_no 2 (some .int) p s m args meth c) (hK : va_K D vwCl [(cy, .int)] s) (hA : ∀ q, s.heap.size ≤ q → A q) (n : Nat) (σ : MS) (x1 : Int32) {H : Heap} {locs : List Loc} {ls : Array Slot} (hB : mB D ad cy A s.heap σ H locs) (hl : lv_has ls 2 [(0, .ref (ad 0)), (1, .int x1)]) (hf : fm_no n σ x1 = some (r0, σ0)) : W p l e rm_no s m args below meth c H locs 0 0 (MQ below (mQi D ad cy A r0 σ0) args s 0 0 A) (F0 m 0 ls []) := by
  obtain ⟨hx, hb, hml, hown, hts, hr, hlocks⟩ := id hc
  unfold fm_no at hf
  refine lv_aload_n hx hb dX8_no_0 rfl (lv_at hl 0 rfl) ?_
  refine rm_get hx hb hts inM hown hK hB 0 (Nat.le_of_ble_eq_true rfl) qf_7 rfl dX8_no_1 ?_
  refine lv_iload_n hx hb dX8_no_4 rfl (lv_at hl 1 rfl) ?_
  refine lv_ineg hx hb dX8_no_5 ?_
  refine lv_dup2_11 hx hb dX8_no_6 rfl rfl ?_
  obtain ⟨k1, hf⟩ := ck_e hf
  refine rm_ald hx hb hK hB 1 rfl k1 dX8_no_7 ?_
  refine lv_topi (fun y2 ey2 => ?_)
  have hf := sq_e hf y2 ey2
  refine lv_iconst (v := 1) hx hb dX8_no_8 (by decide) ?_
  refine lv_iadd hx hb dX8_no_9 ?_
  obtain ⟨k3, hf⟩ := ck_e hf
  refine rm_ast hx hb hK hB 1 rfl (msa_1 _ _ _) k3 dX8_no_10 (fun σ4 eσ4 H locs hB => ?_)
  have hf := sq_e hf σ4 eσ4
  refine lv_iload_n hx hb dX8_no_11 rfl (lv_at hl 1 rfl) ?_
  obtain ⟨rfl, rfl⟩ := so_e hf
  exact rm_iret hx hb hr hlocks hK hB dX8_no_12
theorem cm_no (l : Launch) (D : va_G) (ad : Nat → Nat) (cy : ClassId) (n : Nat) (σ : MS) (x1 : Int32) {r0 : Int32} {σ0 : MS} (hf : fm_no n σ x1 = some (r0, σ0)) : mMi l yX8_no wn_no rm_no D ad cy [.ref (ad 0), .int x1] σ r0 σ0 :=
  rm_meti (ret := (some .int)) (by decide) rfl (Nat.le_of_ble_eq_true rfl) (fun p e s m below meth c A ls hc hK hA hB hl => tbm_no_0 hc hK hA n σ x1 hB hl hf)
theorem kw_no {R : Room} {s : State} {args : Array Value} (hts : ∀ w ∈ wsM, w.before args s = true) (hR : rm_no.frames + 1 ≤ R.frames ∧ 8 + (2 + 11) + rm_no.locals ≤ R.locals) : CallW R s args RX8 RX8 93 yX8_no cX8_no 2 (some .int) wn_no rm_no 0 0 1 := cwV 1 hts (gM_v qw_38 qw_39 qw_40 qw_37 qw_29) rfl rfl rfl (by decide +kernel) hR
/-! isIn -/
abbrev rm_isIn : Room := { frames := 0, cells := 0, slots := 0, locals := 0 }
abbrev wn_isIn : List Cond := .code yX8_isIn cX8_isIn 3 (some .boolean) :: wsM
def fm_isIn (n : Nat) (σ : MS) (x0 : Int32) (x1 : Int32) (x2 : Int32) : Option (Int32 × MS) := if (x0 < x1) then (some (0, σ)) else (if (x2 < x0) then (some (0, σ)) else (some (1, σ)))
set_option maxRecDepth 100000 in
set_option maxHeartbeats 4000000 in
theorem tbm_isIn_0 {p : Program} {l : Launch} {e : Env} {s : State} {m : MethodId} {args : Array Value} {below : List Frame} {meth : Method} {c : Code} {D : va_G} {A : Nat → Prop} {ad : Nat → Nat} {cy : ClassId} {r0 : Int32} {σ0 : MS} (hc : cxB RX8 wsM cX8_isIn 3 (some .boolean) p s m args meth c) (hK : va_K D vwCl [(cy, .int)] s) (hA : ∀ q, s.heap.size ≤ q → A q) (n : Nat) (σ : MS) (x0 : Int32) (x1 : Int32) (x2 : Int32) {H : Heap} {locs : List Loc} {ls : Array Slot} (hB : mB D ad cy A s.heap σ H locs) (hl : lv_has ls 3 [(0, .int x0), (1, .int x1), (2, .int x2)]) (hf : fm_isIn n σ x0 x1 x2 = some (r0, σ0)) : W p l e rm_isIn s m args below meth c H locs 0 0 (MQ below (mQi D ad cy A r0 σ0) args s 0 0 A) (F0 m 0 ls []) := by
  obtain ⟨hx, hb, hml, hown, hts, hr, hlocks⟩ := id hc
  unfold fm_isIn at hf
  refine lv_iload_n hx hb dX8_isIn_0 rfl (lv_at hl 0 rfl) ?_
  refine lv_iload_n hx hb dX8_isIn_1 rfl (lv_at hl 1 rfl) ?_
  refine lv_icmp_lt (tgt := 14) hx hb dX8_isIn_2 (by decide) (fun c1 => ?_) (fun c1 => ?_)
  · have hf := it_t hf c1
    refine lv_iconst (v := 0) hx hb dX8_isIn_14 (by decide) ?_
    obtain ⟨rfl, rfl⟩ := so_e hf
    exact rm_zret hx hb hr hlocks rfl hK hB dX8_isIn_15
  · have hf := it_f hf c1
    refine lv_iload_n hx hb dX8_isIn_5 rfl (lv_at hl 0 rfl) ?_
    refine lv_iload_n hx hb dX8_isIn_6 rfl (lv_at hl 2 rfl) ?_
    refine lv_icmp_gt (tgt := 14) hx hb dX8_isIn_7 (by decide) (fun c2 => ?_) (fun c2 => ?_)
    · have hf := it_t hf c2
      refine lv_iconst (v := 0) hx hb dX8_isIn_14 (by decide) ?_
      obtain ⟨rfl, rfl⟩ := so_e hf
      exact rm_zret hx hb hr hlocks rfl hK hB dX8_isIn_15
    · have hf := it_f hf c2
      refine lv_iconst (v := 1) hx hb dX8_isIn_10 (by decide) ?_
      refine lv_goto (tgt := 15) hx hb dX8_isIn_11 (by decide) ?_
      obtain ⟨rfl, rfl⟩ := so_e hf
      exact rm_zret hx hb hr hlocks rfl hK hB dX8_isIn_15
theorem cm_isIn (l : Launch) (D : va_G) (ad : Nat → Nat) (cy : ClassId) (n : Nat) (σ : MS) (x0 : Int32) (x1 : Int32) (x2 : Int32) {r0 : Int32} {σ0 : MS} (hf : fm_isIn n σ x0 x1 x2 = some (r0, σ0)) : mMi l yX8_isIn wn_isIn rm_isIn D ad cy [.int x0, .int x1, .int x2] σ r0 σ0 :=
  rm_meti (ret := (some .boolean)) (by decide) rfl (Nat.le_of_ble_eq_true rfl) (fun p e s m below meth c A ls hc hK hA hB hl => tbm_isIn_0 hc hK hA n σ x0 x1 x2 hB hl hf)
theorem kw_isIn {R : Room} {s : State} {args : Array Value} (hts : ∀ w ∈ wsM, w.before args s = true) (hR : rm_isIn.frames + 1 ≤ R.frames ∧ 8 + (3 + 11) + rm_isIn.locals ≤ R.locals) : CallB R s args RX8 106 yX8_isIn cX8_isIn 3 (some .boolean) wn_isIn rm_isIn 0 0 3 ∧ (Cond.static yX8_isIn).before args s = true := va_cwS 3 hts (gM_s qw_47 qw_48 qw_37 qw_30) rfl rfl rfl (by decide +kernel) hR
/-! bound -/
abbrev rm_bound : Room := { frames := 0, cells := 0, slots := 0, locals := 0 }
abbrev wn_bound : List Cond := .code yX8_bound cX8_bound 3 (some .int) :: wsM
def fm_bound (n : Nat) (σ : MS) (x0 : Int32) (x1 : Int32) (x2 : Int32) : Option (Int32 × MS) := if (x1 ≤ x0) then (if (x0 ≤ x2) then (some (0, σ)) else (some ((-6), σ))) else (some ((-4), σ))
set_option maxRecDepth 100000 in
set_option maxHeartbeats 4000000 in
theorem tbm_bound_0 {p : Program} {l : Launch} {e : Env} {s : State} {m : MethodId} {args : Array Value} {below : List Frame} {meth : Method} {c : Code} {D : va_G} {A : Nat → Prop} {ad : Nat → Nat} {cy : ClassId} {r0 : Int32} {σ0 : MS} (hc : cxB RX8 wsM cX8_bound 3 (some .int) p s m args meth c) (hK : va_K D vwCl [(cy, .int)] s) (hA : ∀ q, s.heap.size ≤ q → A q) (n : Nat) (σ : MS) (x0 : Int32) (x1 : Int32) (x2 : Int32) {H : Heap} {locs : List Loc} {ls : Array Slot} (hB : mB D ad cy A s.heap σ H locs) (hl : lv_has ls 3 [(0, .int x0), (1, .int x1), (2, .int x2)]) (hf : fm_bound n σ x0 x1 x2 = some (r0, σ0)) : W p l e rm_bound s m args below meth c H locs 0 0 (MQ below (mQi D ad cy A r0 σ0) args s 0 0 A) (F0 m 0 ls []) := by
  obtain ⟨hx, hb, hml, hown, hts, hr, hlocks⟩ := id hc
  unfold fm_bound at hf
  refine lv_iload_n hx hb dX8_bound_0 rfl (lv_at hl 0 rfl) ?_
  refine lv_iload_n hx hb dX8_bound_1 rfl (lv_at hl 1 rfl) ?_
  refine lv_icmp_ge (tgt := 10) hx hb dX8_bound_2 (by decide) (fun c1 => ?_) (fun c1 => ?_)
  · have hf := it_t hf c1
    refine lv_iload_n hx hb dX8_bound_10 rfl (lv_at hl 0 rfl) ?_
    refine lv_iload_n hx hb dX8_bound_11 rfl (lv_at hl 2 rfl) ?_
    refine lv_icmp_le (tgt := 20) hx hb dX8_bound_12 (by decide) (fun c2 => ?_) (fun c2 => ?_)
    · have hf := it_t hf c2
      refine lv_iconst (v := 0) hx hb dX8_bound_20 (by decide) ?_
      obtain ⟨rfl, rfl⟩ := so_e hf
      exact rm_iret hx hb hr hlocks hK hB dX8_bound_21
    · have hf := it_f hf c2
      refine lv_bipush (v := (-6)) hx hb dX8_bound_15 (by decide) ?_
      refine lv_goto (tgt := 21) hx hb dX8_bound_17 (by decide) ?_
      obtain ⟨rfl, rfl⟩ := so_e hf
      exact rm_iret hx hb hr hlocks hK hB dX8_bound_21
  · have hf := it_f hf c1
    refine lv_bipush (v := (-4)) hx hb dX8_bound_5 (by decide) ?_
    refine lv_goto (tgt := 21) hx hb dX8_bound_7 (by decide) ?_
    obtain ⟨rfl, rfl⟩ := so_e hf
    exact rm_iret hx hb hr hlocks hK hB dX8_bound_21
theorem cm_bound (l : Launch) (D : va_G) (ad : Nat → Nat) (cy : ClassId) (n : Nat) (σ : MS) (x0 : Int32) (x1 : Int32) (x2 : Int32) {r0 : Int32} {σ0 : MS} (hf : fm_bound n σ x0 x1 x2 = some (r0, σ0)) : mMi l yX8_bound wn_bound rm_bound D ad cy [.int x0, .int x1, .int x2] σ r0 σ0 :=
  rm_meti (ret := (some .int)) (by decide) rfl (Nat.le_of_ble_eq_true rfl) (fun p e s m below meth c A ls hc hK hA hB hl => tbm_bound_0 hc hK hA n σ x0 x1 x2 hB hl hf)
theorem kw_bound {R : Room} {s : State} {args : Array Value} (hts : ∀ w ∈ wsM, w.before args s = true) (hR : rm_bound.frames + 1 ≤ R.frames ∧ 8 + (3 + 11) + rm_bound.locals ≤ R.locals) : CallB R s args RX8 86 yX8_bound cX8_bound 3 (some .int) wn_bound rm_bound 0 0 3 ∧ (Cond.static yX8_bound).before args s = true := va_cwS 3 hts (gM_s qw_35 qw_36 qw_37 qw_31) rfl rfl rfl (by decide +kernel) hR
/-! bounds -/
abbrev rm_bounds : Room := { frames := 0, cells := 0, slots := 0, locals := 0 }
abbrev wn_bounds : List Cond := .code yX8_bounds cX8_bounds 4 (some .int) :: wsM
def fm_bounds (n : Nat) (σ : MS) (x0 : Int32) (x1 : Int32) (x2 : Int32) (x3 : Int32) : Option (Int32 × MS) := if (x0 < 0) then (some ((-4), σ)) else (if (0 ≤ x2) then (if (x1 < x0) then (some ((-6), σ)) else (if (x2 ≤ x3) then (some (0, σ)) else (some ((-6), σ)))) else (some ((-4), σ)))
set_option maxRecDepth 100000 in
set_option maxHeartbeats 4000000 in
theorem tbm_bounds_0 {p : Program} {l : Launch} {e : Env} {s : State} {m : MethodId} {args : Array Value} {below : List Frame} {meth : Method} {c : Code} {D : va_G} {A : Nat → Prop} {ad : Nat → Nat} {cy : ClassId} {r0 : Int32} {σ0 : MS} (hc : cxB RX8 wsM cX8_bounds 4 (some .int) p s m args meth c) (hK : va_K D vwCl [(cy, .int)] s) (hA : ∀ q, s.heap.size ≤ q → A q) (n : Nat) (σ : MS) (x0 : Int32) (x1 : Int32) (x2 : Int32) (x3 : Int32) {H : Heap} {locs : List Loc} {ls : Array Slot} (hB : mB D ad cy A s.heap σ H locs) (hl : lv_has ls 4 [(0, .int x0), (1, .int x1), (2, .int x2), (3, .int x3)]) (hf : fm_bounds n σ x0 x1 x2 x3 = some (r0, σ0)) : W p l e rm_bounds s m args below meth c H locs 0 0 (MQ below (mQi D ad cy A r0 σ0) args s 0 0 A) (F0 m 0 ls []) := by
  obtain ⟨hx, hb, hml, hown, hts, hr, hlocks⟩ := id hc
  unfold fm_bounds at hf
  refine lv_iload_n hx hb dX8_bounds_0 rfl (lv_at hl 0 rfl) ?_
  refine lv_if_lt (tgt := 8) hx hb dX8_bounds_1 (by decide) (fun c1 => ?_) (fun c1 => ?_)
  · have hf := it_t hf c1
    refine lv_bipush (v := (-4)) hx hb dX8_bounds_8 (by decide) ?_
    refine lv_goto (tgt := 29) hx hb dX8_bounds_10 (by decide) ?_
    obtain ⟨rfl, rfl⟩ := so_e hf
    exact rm_iret hx hb hr hlocks hK hB dX8_bounds_29
  · have hf := it_f hf c1
    refine lv_iload_n hx hb dX8_bounds_4 rfl (lv_at hl 2 rfl) ?_
    refine lv_if_ge (tgt := 13) hx hb dX8_bounds_5 (by decide) (fun c2 => ?_) (fun c2 => ?_)
    · have hf := it_t hf c2
      refine lv_iload_n hx hb dX8_bounds_13 rfl (lv_at hl 0 rfl) ?_
      refine lv_iload_n hx hb dX8_bounds_14 rfl (lv_at hl 1 rfl) ?_
      refine lv_icmp_gt (tgt := 23) hx hb dX8_bounds_15 (by decide) (fun c3 => ?_) (fun c3 => ?_)
      · have hf := it_t hf c3
        refine lv_bipush (v := (-6)) hx hb dX8_bounds_23 (by decide) ?_
        refine lv_goto (tgt := 29) hx hb dX8_bounds_25 (by decide) ?_
        obtain ⟨rfl, rfl⟩ := so_e hf
        exact rm_iret hx hb hr hlocks hK hB dX8_bounds_29
      · have hf := it_f hf c3
        refine lv_iload_n hx hb dX8_bounds_18 rfl (lv_at hl 2 rfl) ?_
        refine lv_iload_n hx hb dX8_bounds_19 rfl (lv_at hl 3 rfl) ?_
        refine lv_icmp_le (tgt := 28) hx hb dX8_bounds_20 (by decide) (fun c4 => ?_) (fun c4 => ?_)
        · have hf := it_t hf c4
          refine lv_iconst (v := 0) hx hb dX8_bounds_28 (by decide) ?_
          obtain ⟨rfl, rfl⟩ := so_e hf
          exact rm_iret hx hb hr hlocks hK hB dX8_bounds_29
        · have hf := it_f hf c4
          refine lv_bipush (v := (-6)) hx hb dX8_bounds_23 (by decide) ?_
          refine lv_goto (tgt := 29) hx hb dX8_bounds_25 (by decide) ?_
          obtain ⟨rfl, rfl⟩ := so_e hf
          exact rm_iret hx hb hr hlocks hK hB dX8_bounds_29
    · have hf := it_f hf c2
      refine lv_bipush (v := (-4)) hx hb dX8_bounds_8 (by decide) ?_
      refine lv_goto (tgt := 29) hx hb dX8_bounds_10 (by decide) ?_
      obtain ⟨rfl, rfl⟩ := so_e hf
      exact rm_iret hx hb hr hlocks hK hB dX8_bounds_29
theorem cm_bounds (l : Launch) (D : va_G) (ad : Nat → Nat) (cy : ClassId) (n : Nat) (σ : MS) (x0 : Int32) (x1 : Int32) (x2 : Int32) (x3 : Int32) {r0 : Int32} {σ0 : MS} (hf : fm_bounds n σ x0 x1 x2 x3 = some (r0, σ0)) : mMi l yX8_bounds wn_bounds rm_bounds D ad cy [.int x0, .int x1, .int x2, .int x3] σ r0 σ0 :=
  rm_meti (ret := (some .int)) (by decide) rfl (Nat.le_of_ble_eq_true rfl) (fun p e s m below meth c A ls hc hK hA hB hl => tbm_bounds_0 hc hK hA n σ x0 x1 x2 x3 hB hl hf)
theorem kw_bounds {R : Room} {s : State} {args : Array Value} (hts : ∀ w ∈ wsM, w.before args s = true) (hR : rm_bounds.frames + 1 ≤ R.frames ∧ 8 + (4 + 11) + rm_bounds.locals ≤ R.locals) : CallB R s args RX8 164 yX8_bounds cX8_bounds 4 (some .int) wn_bounds rm_bounds 0 0 4 ∧ (Cond.static yX8_bounds).before args s = true := va_cwS 4 hts (gM_s qw_101 qw_102 qw_37 qw_32) rfl rfl rfl (by decide +kernel) hR
/-! feed -/
abbrev rm_feed : Room := { frames := 1, cells := 0, slots := 0, locals := 22 }
abbrev wn_feed : List Cond := .code yX8_feed cX8_feed 6 (some .int) :: wsM
def bm_feed_44 (n : Nat) (K44 : MS → Int32 → Int64 → Int32 → Option (Int32 × MS)) (σ : MS) (x1 : Int32) (x2 : Int64) (x5 : Int32) : Option (Int32 × MS) := if (x1 ≤ x5) then (some ((σ.1 0 9), σ)) else (sq (((x2 >>> (Int32.toInt64 (8 * x5) &&& 63)) &&& 255) : Int64) (fun y2 => ck (ib (σ.1 0 9) 20) (sq (mp σ 2 (Int32.toNatClampNeg (σ.1 0 9)) (Int64.toInt32 y2)) (fun σ4 => sq (mp σ4 0 9 ((σ4.1 0 9) + 1)) (fun σ5 => sq (x5 + 1 : Int32) (fun y6 => K44 σ5 x1 x2 y6))))))
set_option maxRecDepth 100000 in
set_option maxHeartbeats 4000000 in
theorem tbm_feed_44 {p : Program} {l : Launch} {e : Env} {s : State} {m : MethodId} {args : Array Value} {below : List Frame} {meth : Method} {c : Code} {D : va_G} {A : Nat → Prop} {ad : Nat → Nat} {cy : ClassId} {r0 : Int32} {σ0 : MS} (hc : cxB RX8 wsM cX8_feed 6 (some .int) p s m args meth c) (hK : va_K D vwCl [(cy, .int)] s) (hA : ∀ q, s.heap.size ≤ q → A q) (n : Nat) (K44 : MS → Int32 → Int64 → Int32 → Option (Int32 × MS)) (hK44 : ∀ (σ : MS) (x1 : Int32) (x2 : Int64) (x5 : Int32) (H : Heap) (locs : List Loc) (ls : Array Slot), mB D ad cy A s.heap σ H locs → lv_has ls 6 [(0, .ref (ad 0)), (1, .int x1), (2, .long x2), (5, .int x5)] → K44 σ x1 x2 x5 = some (r0, σ0) → W p l e rm_feed s m args below meth c H locs 0 0 (MQ below (mQi D ad cy A r0 σ0) args s 0 0 A) (F0 m 44 ls [])) (σ : MS) (x1 : Int32) (x2 : Int64) (x5 : Int32) {H : Heap} {locs : List Loc} {ls : Array Slot} (hB : mB D ad cy A s.heap σ H locs) (hl : lv_has ls 6 [(0, .ref (ad 0)), (1, .int x1), (2, .long x2), (5, .int x5)]) (hf : bm_feed_44 n K44 σ x1 x2 x5 = some (r0, σ0)) : W p l e rm_feed s m args below meth c H locs 0 0 (MQ below (mQi D ad cy A r0 σ0) args s 0 0 A) (F0 m 44 ls []) := by
  obtain ⟨hx, hb, hml, hown, hts, hr, hlocks⟩ := id hc
  unfold bm_feed_44 at hf
  refine lv_iload hx hb dX8_feed_44 (lv_at hl 3 rfl) ?_
  refine lv_iload_n hx hb dX8_feed_46 rfl (lv_at hl 1 rfl) ?_
  refine lv_icmp_ge (tgt := 87) hx hb dX8_feed_47 (by decide) (fun c1 => ?_) (fun c1 => ?_)
  · have hf := it_t hf c1
    refine lv_aload_n hx hb dX8_feed_87 rfl (lv_at hl 0 rfl) ?_
    refine rm_get hx hb hts inM hown hK hB 9 (Nat.le_of_ble_eq_true rfl) qf_90 rfl dX8_feed_88 ?_
    obtain ⟨rfl, rfl⟩ := so_e hf
    exact rm_iret hx hb hr hlocks hK hB dX8_feed_91
  · have hf := it_f hf c1
    refine lv_aload_n hx hb dX8_feed_50 rfl (lv_at hl 0 rfl) ?_
    refine rm_get hx hb hts inM hown hK hB 1 (Nat.le_of_ble_eq_true rfl) qf_13 rfl dX8_feed_51 ?_
    refine lv_aload_n hx hb dX8_feed_54 rfl (lv_at hl 0 rfl) ?_
    refine rm_get hx hb hts inM hown hK hB 9 (Nat.le_of_ble_eq_true rfl) qf_90 rfl dX8_feed_55 ?_
    refine lv_lload_n hx hb dX8_feed_58 rfl (lv_at hl 2 rfl) ?_
    refine lv_bipush (v := 8) hx hb dX8_feed_59 (by decide) ?_
    refine lv_iload hx hb dX8_feed_61 (lv_at hl 3 rfl) ?_
    refine lv_imul hx hb dX8_feed_63 ?_
    refine lv_lshr hx hb dX8_feed_64 rfl ?_
    refine lv_ldc2 (v := 255) hx hb hown (hts _ qw_34) dX8_feed_65 ?_
    refine lv_land hx hb dX8_feed_68 ?_
    refine lv_topl (fun y2 ey2 => ?_)
    have hf := sq_e hf y2 ey2
    refine lv_l2i hx hb dX8_feed_69 rfl ?_
    obtain ⟨k3, hf⟩ := ck_e hf
    refine rm_ast hx hb hK hB 2 rfl (msa_2 _ _ _) k3 dX8_feed_70 (fun σ4 eσ4 H locs hB => ?_)
    have hf := sq_e hf σ4 eσ4
    refine lv_aload_n hx hb dX8_feed_71 rfl (lv_at hl 0 rfl) ?_
    refine lv_dup hx hb dX8_feed_72 rfl ?_
    refine rm_get hx hb hts inM hown hK hB 9 (Nat.le_of_ble_eq_true rfl) qf_90 rfl dX8_feed_73 ?_
    refine lv_iconst (v := 1) hx hb dX8_feed_76 (by decide) ?_
    refine lv_iadd hx hb dX8_feed_77 ?_
    refine rm_puti hx hb hts inM hown hK hB 9 (Nat.le_of_ble_eq_true rfl) qf_90 (ms_9 _ _ _) rfl pd_9 rfl rfl dX8_feed_78 (fun σ5 eσ5 H locs hB => ?_)
    have hf := sq_e hf σ5 eσ5
    obtain ⟨y6, ey6⟩ : ∃ z : Int32, z = x5 + 1 := ⟨_, rfl⟩
    have hf := sq_e hf y6 ey6
    refine lv_iinc (v := y6) (lv' := [(5, .int y6), (0, .ref (ad 0)), (1, .int x1), (2, .long x2)]) hx hb dX8_feed_81 hl (k := 3) rfl (by rw [ey6]; rfl) (by decide) rfl (fun ls hl => ?_)
    refine lv_goto (tgt := 44) hx hb dX8_feed_84 (by decide) ?_
    exact hK44 σ5 x1 x2 y6 _ _ _ hB (lv_sub hl [1, 2, 3, 0] rfl) hf
def lm_feed_44 (n : Nat) : Nat → MS → Int32 → Int64 → Int32 → Option (Int32 × MS)
  | 0 => fun _ _ _ _ => none
  | k + 1 => bm_feed_44 n (lm_feed_44 n k)
theorem tlm_feed_44 {p : Program} {l : Launch} {e : Env} {s : State} {m : MethodId} {args : Array Value} {below : List Frame} {meth : Method} {c : Code} {D : va_G} {A : Nat → Prop} {ad : Nat → Nat} {cy : ClassId} {r0 : Int32} {σ0 : MS} (hc : cxB RX8 wsM cX8_feed 6 (some .int) p s m args meth c) (hK : va_K D vwCl [(cy, .int)] s) (hA : ∀ q, s.heap.size ≤ q → A q) (n : Nat) : ∀ (k : Nat) (σ : MS) (x1 : Int32) (x2 : Int64) (x5 : Int32) (H : Heap) (locs : List Loc) (ls : Array Slot), mB D ad cy A s.heap σ H locs → lv_has ls 6 [(0, .ref (ad 0)), (1, .int x1), (2, .long x2), (5, .int x5)] → lm_feed_44 n k σ x1 x2 x5 = some (r0, σ0) → W p l e rm_feed s m args below meth c H locs 0 0 (MQ below (mQi D ad cy A r0 σ0) args s 0 0 A) (F0 m 44 ls []) := by
  intro k
  induction k with
  | zero =>
    intro σ x1 x2 x5 H locs ls hB hl hf
    have hf : (none : Option (Int32 × MS)) = some (r0, σ0) := hf
    cases hf
  | succ k ih =>
    intro σ x1 x2 x5 H locs ls hB hl hf
    exact tbm_feed_44 hc hK hA n (lm_feed_44 n k) ih σ x1 x2 x5 hB hl hf
def bm_feed_29 (n : Nat) (σ : MS) (x1 : Int32) (x2 : Int64) (x4 : Int32) : Option (Int32 × MS) := if (x4 = 0) then (sq (0 : Int32) (fun y2 => lm_feed_44 n n σ x1 x2 y2)) else (bd (fm_no n σ x4) (fun r3 σ4 => some (r3, σ4)))
set_option maxRecDepth 100000 in
set_option maxHeartbeats 4000000 in
theorem tbm_feed_29 {p : Program} {l : Launch} {e : Env} {s : State} {m : MethodId} {args : Array Value} {below : List Frame} {meth : Method} {c : Code} {D : va_G} {A : Nat → Prop} {ad : Nat → Nat} {cy : ClassId} {r0 : Int32} {σ0 : MS} (hc : cxB RX8 wsM cX8_feed 6 (some .int) p s m args meth c) (hK : va_K D vwCl [(cy, .int)] s) (hA : ∀ q, s.heap.size ≤ q → A q) (n : Nat) (σ : MS) (x1 : Int32) (x2 : Int64) (x4 : Int32) {H : Heap} {locs : List Loc} {ls : Array Slot} (hB : mB D ad cy A s.heap σ H locs) (hl : lv_has ls 6 [(0, .ref (ad 0)), (1, .int x1), (2, .long x2), (4, .int x4)]) (hf : bm_feed_29 n σ x1 x2 x4 = some (r0, σ0)) : W p l e rm_feed s m args below meth c H locs 0 0 (MQ below (mQi D ad cy A r0 σ0) args s 0 0 A) (F0 m 29 ls []) := by
  obtain ⟨hx, hb, hml, hown, hts, hr, hlocks⟩ := id hc
  unfold bm_feed_29 at hf
  refine lv_iload hx hb dX8_feed_29 (lv_at hl 3 rfl) ?_
  refine lv_if_eq (tgt := 41) hx hb dX8_feed_31 (by decide) (fun c1 => ?_) (fun c1 => ?_)
  · have hf := it_t hf c1
    refine lv_iconst (v := 0) hx hb dX8_feed_41 (by decide) ?_
    refine lv_topi (fun y2 ey2 => ?_)
    have hf := sq_e hf y2 ey2
    refine lv_istore (lv' := [(5, .int y2), (0, .ref (ad 0)), (1, .int x1), (2, .long x2), (4, .int x4)]) hx hb dX8_feed_42 hl (by decide) rfl (fun ls hl => ?_)
    exact tlm_feed_44 hc hK hA n n σ x1 x2 y2 _ _ _ hB (lv_sub hl [1, 2, 3, 0] rfl) hf
  · have hf := it_f hf c1
    refine lv_aload_n hx hb dX8_feed_34 rfl (lv_at hl 0 rfl) ?_
    refine lv_iload hx hb dX8_feed_35 (lv_at hl 3 rfl) ?_
    obtain ⟨r3, σ4, hkr3, hf⟩ := bd_e hf
    refine rm_calliV (av := [.int x4]) (rest := []) hx hb hml hown hts hl.1 hK hA hB (cm_no l D ad cy n σ x4 hkr3) (kw_no hts ⟨Nat.le_of_ble_eq_true rfl, Nat.le_of_ble_eq_true rfl⟩) rfl rfl (lv_room (Nat.le_of_ble_eq_true rfl)) dX8_feed_37 (Nat.le_refl _) (Nat.le_refl _) (fun H locs hB => ?_)
    obtain ⟨rfl, rfl⟩ := so_e hf
    exact rm_iret hx hb hr hlocks hK hB dX8_feed_40
def fm_feed (n : Nat) (σ : MS) (x1 : Int32) (x2 : Int64) : Option (Int32 × MS) := bd (fm_bound n σ x1 1 8) (fun r1 σ2 => if (r1 = 0) then (if (((σ2.1 0 9) + x1) ≤ 20) then (bm_feed_29 n σ2 x1 x2 r1) else (sq ((-6) : Int32) (fun y5 => bm_feed_29 n σ2 x1 x2 y5))) else (bm_feed_29 n σ2 x1 x2 r1))
set_option maxRecDepth 100000 in
set_option maxHeartbeats 4000000 in
theorem tbm_feed_0 {p : Program} {l : Launch} {e : Env} {s : State} {m : MethodId} {args : Array Value} {below : List Frame} {meth : Method} {c : Code} {D : va_G} {A : Nat → Prop} {ad : Nat → Nat} {cy : ClassId} {r0 : Int32} {σ0 : MS} (hc : cxB RX8 wsM cX8_feed 6 (some .int) p s m args meth c) (hK : va_K D vwCl [(cy, .int)] s) (hA : ∀ q, s.heap.size ≤ q → A q) (n : Nat) (σ : MS) (x1 : Int32) (x2 : Int64) {H : Heap} {locs : List Loc} {ls : Array Slot} (hB : mB D ad cy A s.heap σ H locs) (hl : lv_has ls 6 [(0, .ref (ad 0)), (1, .int x1), (2, .long x2)]) (hf : fm_feed n σ x1 x2 = some (r0, σ0)) : W p l e rm_feed s m args below meth c H locs 0 0 (MQ below (mQi D ad cy A r0 σ0) args s 0 0 A) (F0 m 0 ls []) := by
  obtain ⟨hx, hb, hml, hown, hts, hr, hlocks⟩ := id hc
  unfold fm_feed at hf
  refine lv_iload_n hx hb dX8_feed_0 rfl (lv_at hl 1 rfl) ?_
  refine lv_iconst (v := 1) hx hb dX8_feed_1 (by decide) ?_
  refine lv_bipush (v := 8) hx hb dX8_feed_2 (by decide) ?_
  obtain ⟨r1, σ2, hkr1, hf⟩ := bd_e hf
  refine rm_calliS (av := [.int x1, .int 1, .int 8]) (rest := []) hx hb hml hown hts hl.1 hK hA hB (cm_bound l D ad cy n σ x1 1 8 hkr1) (kw_bound hts ⟨Nat.le_of_ble_eq_true rfl, Nat.le_of_ble_eq_true rfl⟩) rfl rfl (lv_room (Nat.le_of_ble_eq_true rfl)) dX8_feed_4 (Nat.le_refl _) (Nat.le_refl _) (fun H locs hB => ?_)
  refine lv_istore (lv' := [(4, .int r1), (0, .ref (ad 0)), (1, .int x1), (2, .long x2)]) hx hb dX8_feed_7 hl (by decide) rfl (fun ls hl => ?_)
  refine lv_iload hx hb dX8_feed_9 (lv_at hl 0 rfl) ?_
  refine lv_if_ne (tgt := 29) hx hb dX8_feed_11 (by decide) (fun c3 => ?_) (fun c3 => ?_)
  · have hf := it_f hf c3
    exact tbm_feed_29 hc hK hA n σ2 x1 x2 r1 hB (lv_sub hl [1, 2, 3, 0] rfl) hf
  · have hf := it_t hf c3
    refine lv_aload_n hx hb dX8_feed_14 rfl (lv_at hl 1 rfl) ?_
    refine rm_get hx hb hts inM hown hK hB 9 (Nat.le_of_ble_eq_true rfl) qf_90 rfl dX8_feed_15 ?_
    refine lv_iload_n hx hb dX8_feed_18 rfl (lv_at hl 2 rfl) ?_
    refine lv_iadd hx hb dX8_feed_19 ?_
    refine lv_bipush (v := 20) hx hb dX8_feed_20 (by decide) ?_
    refine lv_icmp_le (tgt := 29) hx hb dX8_feed_22 (by decide) (fun c4 => ?_) (fun c4 => ?_)
    · have hf := it_t hf c4
      exact tbm_feed_29 hc hK hA n σ2 x1 x2 r1 hB (lv_sub hl [1, 2, 3, 0] rfl) hf
    · have hf := it_f hf c4
      refine lv_bipush (v := (-6)) hx hb dX8_feed_25 (by decide) ?_
      refine lv_topi (fun y5 ey5 => ?_)
      have hf := sq_e hf y5 ey5
      refine lv_istore (lv' := [(4, .int y5), (0, .ref (ad 0)), (1, .int x1), (2, .long x2)]) hx hb dX8_feed_27 hl (by decide) rfl (fun ls hl => ?_)
      exact tbm_feed_29 hc hK hA n σ2 x1 x2 y5 hB (lv_sub hl [1, 2, 3, 0] rfl) hf
theorem cm_feed (l : Launch) (D : va_G) (ad : Nat → Nat) (cy : ClassId) (n : Nat) (σ : MS) (x1 : Int32) (x2 : Int64) {r0 : Int32} {σ0 : MS} (hf : fm_feed n σ x1 x2 = some (r0, σ0)) : mMi l yX8_feed wn_feed rm_feed D ad cy [.ref (ad 0), .int x1, .long x2] σ r0 σ0 :=
  rm_meti (ret := (some .int)) (by decide) rfl (Nat.le_of_ble_eq_true rfl) (fun p e s m below meth c A ls hc hK hA hB hl => tbm_feed_0 hc hK hA n σ x1 x2 hB hl hf)
/-! sign -/
abbrev rm_sign : Room := { frames := 0, cells := 0, slots := 0, locals := 0 }
abbrev wn_sign : List Cond := .code yX8_sign cX8_sign 1 (some .int) :: wsM
def fm_sign (n : Nat) (σ : MS) : Option (Int32 × MS) := if ((σ.1 0 9) ≤ (σ.1 0 10)) then (some ((-1), σ)) else (ck (ib (σ.1 0 10) 20) (sq ((σ.1 2 (Int32.toNatClampNeg (σ.1 0 10))) : Int32) (fun y3 => some (y3, σ))))
set_option maxRecDepth 100000 in
set_option maxHeartbeats 4000000 in
theorem tbm_sign_0 {p : Program} {l : Launch} {e : Env} {s : State} {m : MethodId} {args : Array Value} {below : List Frame} {meth : Method} {c : Code} {D : va_G} {A : Nat → Prop} {ad : Nat → Nat} {cy : ClassId} {r0 : Int32} {σ0 : MS} (hc : cxB RX8 wsM cX8_sign 1 (some .int) p s m args meth c) (hK : va_K D vwCl [(cy, .int)] s) (hA : ∀ q, s.heap.size ≤ q → A q) (n : Nat) (σ : MS) {H : Heap} {locs : List Loc} {ls : Array Slot} (hB : mB D ad cy A s.heap σ H locs) (hl : lv_has ls 1 [(0, .ref (ad 0))]) (hf : fm_sign n σ = some (r0, σ0)) : W p l e rm_sign s m args below meth c H locs 0 0 (MQ below (mQi D ad cy A r0 σ0) args s 0 0 A) (F0 m 0 ls []) := by
  obtain ⟨hx, hb, hml, hown, hts, hr, hlocks⟩ := id hc
  unfold fm_sign at hf
  refine lv_aload_n hx hb dX8_sign_0 rfl (lv_at hl 0 rfl) ?_
  refine rm_get hx hb hts inM hown hK hB 10 (Nat.le_of_ble_eq_true rfl) qf_99 rfl dX8_sign_1 ?_
  refine lv_aload_n hx hb dX8_sign_4 rfl (lv_at hl 0 rfl) ?_
  refine rm_get hx hb hts inM hown hK hB 9 (Nat.le_of_ble_eq_true rfl) qf_90 rfl dX8_sign_5 ?_
  refine lv_icmp_ge (tgt := 23) hx hb dX8_sign_8 (by decide) (fun c1 => ?_) (fun c1 => ?_)
  · have hf := it_t hf c1
    refine lv_iconst (v := (-1)) hx hb dX8_sign_23 (by decide) ?_
    obtain ⟨rfl, rfl⟩ := so_e hf
    exact rm_iret hx hb hr hlocks hK hB dX8_sign_24
  · have hf := it_f hf c1
    refine lv_aload_n hx hb dX8_sign_11 rfl (lv_at hl 0 rfl) ?_
    refine rm_get hx hb hts inM hown hK hB 1 (Nat.le_of_ble_eq_true rfl) qf_13 rfl dX8_sign_12 ?_
    refine lv_aload_n hx hb dX8_sign_15 rfl (lv_at hl 0 rfl) ?_
    refine rm_get hx hb hts inM hown hK hB 10 (Nat.le_of_ble_eq_true rfl) qf_99 rfl dX8_sign_16 ?_
    obtain ⟨k2, hf⟩ := ck_e hf
    refine rm_ald hx hb hK hB 2 rfl k2 dX8_sign_19 ?_
    refine lv_topi (fun y3 ey3 => ?_)
    have hf := sq_e hf y3 ey3
    refine lv_goto (tgt := 24) hx hb dX8_sign_20 (by decide) ?_
    obtain ⟨rfl, rfl⟩ := so_e hf
    exact rm_iret hx hb hr hlocks hK hB dX8_sign_24
theorem cm_sign (l : Launch) (D : va_G) (ad : Nat → Nat) (cy : ClassId) (n : Nat) (σ : MS) {r0 : Int32} {σ0 : MS} (hf : fm_sign n σ = some (r0, σ0)) : mMi l yX8_sign wn_sign rm_sign D ad cy [.ref (ad 0)] σ r0 σ0 :=
  rm_meti (ret := (some .int)) (by decide) rfl (Nat.le_of_ble_eq_true rfl) (fun p e s m below meth c A ls hc hK hA hB hl => tbm_sign_0 hc hK hA n σ hB hl hf)
theorem kw_sign {R : Room} {s : State} {args : Array Value} (hts : ∀ w ∈ wsM, w.before args s = true) (hR : rm_sign.frames + 1 ≤ R.frames ∧ 8 + (1 + 11) + rm_sign.locals ≤ R.locals) : CallW R s args RX8 RX8 102 yX8_sign cX8_sign 1 (some .int) wn_sign rm_sign 0 0 0 := cwV 0 hts (gM_v qw_44 qw_45 qw_46 qw_37 qw_41) rfl rfl rfl (by decide +kernel) hR
/-! isDigit -/
abbrev rm_isDigit : Room := { frames := 1, cells := 0, slots := 0, locals := 22 }
abbrev wn_isDigit : List Cond := .code yX8_isDigit cX8_isDigit 1 (some .boolean) :: wsM
def fm_isDigit (n : Nat) (σ : MS) : Option (Int32 × MS) := bd (fm_sign n σ) (fun r1 σ2 => bd (fm_isIn n σ2 r1 48 57) (fun r3 σ4 => ck (zb r3) (some (r3, σ4))))
set_option maxRecDepth 100000 in
set_option maxHeartbeats 4000000 in
theorem tbm_isDigit_0 {p : Program} {l : Launch} {e : Env} {s : State} {m : MethodId} {args : Array Value} {below : List Frame} {meth : Method} {c : Code} {D : va_G} {A : Nat → Prop} {ad : Nat → Nat} {cy : ClassId} {r0 : Int32} {σ0 : MS} (hc : cxB RX8 wsM cX8_isDigit 1 (some .boolean) p s m args meth c) (hK : va_K D vwCl [(cy, .int)] s) (hA : ∀ q, s.heap.size ≤ q → A q) (n : Nat) (σ : MS) {H : Heap} {locs : List Loc} {ls : Array Slot} (hB : mB D ad cy A s.heap σ H locs) (hl : lv_has ls 1 [(0, .ref (ad 0))]) (hf : fm_isDigit n σ = some (r0, σ0)) : W p l e rm_isDigit s m args below meth c H locs 0 0 (MQ below (mQi D ad cy A r0 σ0) args s 0 0 A) (F0 m 0 ls []) := by
  obtain ⟨hx, hb, hml, hown, hts, hr, hlocks⟩ := id hc
  unfold fm_isDigit at hf
  refine lv_aload_n hx hb dX8_isDigit_0 rfl (lv_at hl 0 rfl) ?_
  obtain ⟨r1, σ2, hkr1, hf⟩ := bd_e hf
  refine rm_calliV (av := []) (rest := []) hx hb hml hown hts hl.1 hK hA hB (cm_sign l D ad cy n σ hkr1) (kw_sign hts ⟨Nat.le_of_ble_eq_true rfl, Nat.le_of_ble_eq_true rfl⟩) rfl rfl (lv_room (Nat.le_of_ble_eq_true rfl)) dX8_isDigit_1 (Nat.le_refl _) (Nat.le_refl _) (fun H locs hB => ?_)
  refine lv_bipush (v := 48) hx hb dX8_isDigit_4 (by decide) ?_
  refine lv_bipush (v := 57) hx hb dX8_isDigit_6 (by decide) ?_
  obtain ⟨r3, σ4, hkr3, hf⟩ := bd_e hf
  refine rm_calliS (av := [.int r1, .int 48, .int 57]) (rest := []) hx hb hml hown hts hl.1 hK hA hB (cm_isIn l D ad cy n σ2 r1 48 57 hkr3) (kw_isIn hts ⟨Nat.le_of_ble_eq_true rfl, Nat.le_of_ble_eq_true rfl⟩) rfl rfl (lv_room (Nat.le_of_ble_eq_true rfl)) dX8_isDigit_8 (Nat.le_refl _) (Nat.le_refl _) (fun H locs hB => ?_)
  obtain ⟨k5, hf⟩ := ck_e hf
  obtain ⟨rfl, rfl⟩ := so_e hf
  exact rm_zret hx hb hr hlocks (zb_n k5) hK hB dX8_isDigit_11
theorem cm_isDigit (l : Launch) (D : va_G) (ad : Nat → Nat) (cy : ClassId) (n : Nat) (σ : MS) {r0 : Int32} {σ0 : MS} (hf : fm_isDigit n σ = some (r0, σ0)) : mMi l yX8_isDigit wn_isDigit rm_isDigit D ad cy [.ref (ad 0)] σ r0 σ0 :=
  rm_meti (ret := (some .boolean)) (by decide) rfl (Nat.le_of_ble_eq_true rfl) (fun p e s m below meth c A ls hc hK hA hB hl => tbm_isDigit_0 hc hK hA n σ hB hl hf)
theorem kw_isDigit {R : Room} {s : State} {args : Array Value} (hts : ∀ w ∈ wsM, w.before args s = true) (hR : rm_isDigit.frames + 1 ≤ R.frames ∧ 8 + (1 + 11) + rm_isDigit.locals ≤ R.locals) : CallW R s args RX8 RX8 110 yX8_isDigit cX8_isDigit 1 (some .boolean) wn_isDigit rm_isDigit 0 0 0 := cwV 0 hts (gM_v qw_50 qw_51 qw_52 qw_37 qw_43) rfl rfl rfl (by decide +kernel) hR
/-! number -/
abbrev rm_number : Room := { frames := 2, cells := 0, slots := 0, locals := 42 }
abbrev wn_number : List Cond := .code yX8_number cX8_number 3 (some .int) :: wsM
def bm_number_29 (n : Nat) (K29 : MS → Int32 → Int32 → Option (Int32 × MS)) (σ : MS) (x1 : Int32) (x2 : Int32) : Option (Int32 × MS) := if (3 ≤ x2) then (some (x1, σ)) else (if (x1 ≤ 0) then (some (x1, σ)) else (bd (fm_isDigit n σ) (fun r3 σ4 => if (r3 = 0) then (some (x1, σ4)) else (bd (fm_sign n σ4) (fun r6 σ7 => sq ((((10 * x1) + r6) - 48) : Int32) (fun y8 => sq (mp σ7 0 10 ((σ7.1 0 10) + 1)) (fun σ9 => sq (x2 + 1 : Int32) (fun y10 => K29 σ9 y8 y10))))))))
set_option maxRecDepth 100000 in
set_option maxHeartbeats 4000000 in
theorem tbm_number_29 {p : Program} {l : Launch} {e : Env} {s : State} {m : MethodId} {args : Array Value} {below : List Frame} {meth : Method} {c : Code} {D : va_G} {A : Nat → Prop} {ad : Nat → Nat} {cy : ClassId} {r0 : Int32} {σ0 : MS} (hc : cxB RX8 wsM cX8_number 3 (some .int) p s m args meth c) (hK : va_K D vwCl [(cy, .int)] s) (hA : ∀ q, s.heap.size ≤ q → A q) (n : Nat) (K29 : MS → Int32 → Int32 → Option (Int32 × MS)) (hK29 : ∀ (σ : MS) (x1 : Int32) (x2 : Int32) (H : Heap) (locs : List Loc) (ls : Array Slot), mB D ad cy A s.heap σ H locs → lv_has ls 3 [(0, .ref (ad 0)), (1, .int x1), (2, .int x2)] → K29 σ x1 x2 = some (r0, σ0) → W p l e rm_number s m args below meth c H locs 0 0 (MQ below (mQi D ad cy A r0 σ0) args s 0 0 A) (F0 m 29 ls [])) (σ : MS) (x1 : Int32) (x2 : Int32) {H : Heap} {locs : List Loc} {ls : Array Slot} (hB : mB D ad cy A s.heap σ H locs) (hl : lv_has ls 3 [(0, .ref (ad 0)), (1, .int x1), (2, .int x2)]) (hf : bm_number_29 n K29 σ x1 x2 = some (r0, σ0)) : W p l e rm_number s m args below meth c H locs 0 0 (MQ below (mQi D ad cy A r0 σ0) args s 0 0 A) (F0 m 29 ls []) := by
  obtain ⟨hx, hb, hml, hown, hts, hr, hlocks⟩ := id hc
  unfold bm_number_29 at hf
  refine lv_iload_n hx hb dX8_number_29 rfl (lv_at hl 2 rfl) ?_
  refine lv_iconst (v := 3) hx hb dX8_number_30 (by decide) ?_
  refine lv_icmp_ge (tgt := 74) hx hb dX8_number_31 (by decide) (fun c1 => ?_) (fun c1 => ?_)
  · have hf := it_t hf c1
    refine lv_iload_n hx hb dX8_number_74 rfl (lv_at hl 1 rfl) ?_
    obtain ⟨rfl, rfl⟩ := so_e hf
    exact rm_iret hx hb hr hlocks hK hB dX8_number_75
  · have hf := it_f hf c1
    refine lv_iload_n hx hb dX8_number_34 rfl (lv_at hl 1 rfl) ?_
    refine lv_if_le (tgt := 74) hx hb dX8_number_35 (by decide) (fun c2 => ?_) (fun c2 => ?_)
    · have hf := it_t hf c2
      refine lv_iload_n hx hb dX8_number_74 rfl (lv_at hl 1 rfl) ?_
      obtain ⟨rfl, rfl⟩ := so_e hf
      exact rm_iret hx hb hr hlocks hK hB dX8_number_75
    · have hf := it_f hf c2
      refine lv_aload_n hx hb dX8_number_38 rfl (lv_at hl 0 rfl) ?_
      obtain ⟨r3, σ4, hkr3, hf⟩ := bd_e hf
      refine rm_calliV (av := []) (rest := []) hx hb hml hown hts hl.1 hK hA hB (cm_isDigit l D ad cy n σ hkr3) (kw_isDigit hts ⟨Nat.le_of_ble_eq_true rfl, Nat.le_of_ble_eq_true rfl⟩) rfl rfl (lv_room (Nat.le_of_ble_eq_true rfl)) dX8_number_39 (Nat.le_refl _) (Nat.le_refl _) (fun H locs hB => ?_)
      refine lv_if_eq (tgt := 74) hx hb dX8_number_42 (by decide) (fun c5 => ?_) (fun c5 => ?_)
      · have hf := it_t hf c5
        refine lv_iload_n hx hb dX8_number_74 rfl (lv_at hl 1 rfl) ?_
        obtain ⟨rfl, rfl⟩ := so_e hf
        exact rm_iret hx hb hr hlocks hK hB dX8_number_75
      · have hf := it_f hf c5
        refine lv_bipush (v := 10) hx hb dX8_number_45 (by decide) ?_
        refine lv_iload_n hx hb dX8_number_47 rfl (lv_at hl 1 rfl) ?_
        refine lv_imul hx hb dX8_number_48 ?_
        refine lv_aload_n hx hb dX8_number_49 rfl (lv_at hl 0 rfl) ?_
        obtain ⟨r6, σ7, hkr6, hf⟩ := bd_e hf
        refine rm_calliV (av := []) (rest := [.int (10 * x1)]) hx hb hml hown hts hl.1 hK hA hB (cm_sign l D ad cy n σ4 hkr6) (kw_sign hts ⟨Nat.le_of_ble_eq_true rfl, Nat.le_of_ble_eq_true rfl⟩) rfl rfl (lv_room (Nat.le_of_ble_eq_true rfl)) dX8_number_50 (Nat.le_refl _) (Nat.le_refl _) (fun H locs hB => ?_)
        refine lv_iadd hx hb dX8_number_53 ?_
        refine lv_bipush (v := 48) hx hb dX8_number_54 (by decide) ?_
        refine lv_isub hx hb dX8_number_56 ?_
        refine lv_topi (fun y8 ey8 => ?_)
        have hf := sq_e hf y8 ey8
        refine lv_istore_n (lv' := [(1, .int y8), (0, .ref (ad 0)), (2, .int x2)]) hx hb dX8_number_57 rfl hl (by decide) rfl (fun ls hl => ?_)
        refine lv_aload_n hx hb dX8_number_58 rfl (lv_at hl 1 rfl) ?_
        refine lv_dup hx hb dX8_number_59 rfl ?_
        refine rm_get hx hb hts inM hown hK hB 10 (Nat.le_of_ble_eq_true rfl) qf_99 rfl dX8_number_60 ?_
        refine lv_iconst (v := 1) hx hb dX8_number_63 (by decide) ?_
        refine lv_iadd hx hb dX8_number_64 ?_
        refine rm_puti hx hb hts inM hown hK hB 10 (Nat.le_of_ble_eq_true rfl) qf_99 (ms_10 _ _ _) rfl pd_10 rfl rfl dX8_number_65 (fun σ9 eσ9 H locs hB => ?_)
        have hf := sq_e hf σ9 eσ9
        obtain ⟨y10, ey10⟩ : ∃ z : Int32, z = x2 + 1 := ⟨_, rfl⟩
        have hf := sq_e hf y10 ey10
        refine lv_iinc (v := y10) (lv' := [(2, .int y10), (1, .int y8), (0, .ref (ad 0))]) hx hb dX8_number_68 hl (k := 2) rfl (by rw [ey10]; rfl) (by decide) rfl (fun ls hl => ?_)
        refine lv_goto (tgt := 29) hx hb dX8_number_71 (by decide) ?_
        exact hK29 σ9 y8 y10 _ _ _ hB (lv_sub hl [2, 1, 0] rfl) hf
def lm_number_29 (n : Nat) : Nat → MS → Int32 → Int32 → Option (Int32 × MS)
  | 0 => fun _ _ _ => none
  | k + 1 => bm_number_29 n (lm_number_29 n k)
theorem tlm_number_29 {p : Program} {l : Launch} {e : Env} {s : State} {m : MethodId} {args : Array Value} {below : List Frame} {meth : Method} {c : Code} {D : va_G} {A : Nat → Prop} {ad : Nat → Nat} {cy : ClassId} {r0 : Int32} {σ0 : MS} (hc : cxB RX8 wsM cX8_number 3 (some .int) p s m args meth c) (hK : va_K D vwCl [(cy, .int)] s) (hA : ∀ q, s.heap.size ≤ q → A q) (n : Nat) : ∀ (k : Nat) (σ : MS) (x1 : Int32) (x2 : Int32) (H : Heap) (locs : List Loc) (ls : Array Slot), mB D ad cy A s.heap σ H locs → lv_has ls 3 [(0, .ref (ad 0)), (1, .int x1), (2, .int x2)] → lm_number_29 n k σ x1 x2 = some (r0, σ0) → W p l e rm_number s m args below meth c H locs 0 0 (MQ below (mQi D ad cy A r0 σ0) args s 0 0 A) (F0 m 29 ls []) := by
  intro k
  induction k with
  | zero =>
    intro σ x1 x2 H locs ls hB hl hf
    have hf : (none : Option (Int32 × MS)) = some (r0, σ0) := hf
    cases hf
  | succ k ih =>
    intro σ x1 x2 H locs ls hB hl hf
    exact tbm_number_29 hc hK hA n (lm_number_29 n k) ih σ x1 x2 hB hl hf
def fm_number (n : Nat) (σ : MS) : Option (Int32 × MS) := bd (fm_isDigit n σ) (fun r1 σ2 => if (r1 = 0) then (some ((-1), σ2)) else (bd (fm_sign n σ2) (fun r4 σ5 => sq ((r4 - 48) : Int32) (fun y6 => sq (mp σ5 0 10 ((σ5.1 0 10) + 1)) (fun σ7 => sq (1 : Int32) (fun y8 => lm_number_29 n n σ7 y6 y8))))))
set_option maxRecDepth 100000 in
set_option maxHeartbeats 4000000 in
theorem tbm_number_0 {p : Program} {l : Launch} {e : Env} {s : State} {m : MethodId} {args : Array Value} {below : List Frame} {meth : Method} {c : Code} {D : va_G} {A : Nat → Prop} {ad : Nat → Nat} {cy : ClassId} {r0 : Int32} {σ0 : MS} (hc : cxB RX8 wsM cX8_number 3 (some .int) p s m args meth c) (hK : va_K D vwCl [(cy, .int)] s) (hA : ∀ q, s.heap.size ≤ q → A q) (n : Nat) (σ : MS) {H : Heap} {locs : List Loc} {ls : Array Slot} (hB : mB D ad cy A s.heap σ H locs) (hl : lv_has ls 3 [(0, .ref (ad 0))]) (hf : fm_number n σ = some (r0, σ0)) : W p l e rm_number s m args below meth c H locs 0 0 (MQ below (mQi D ad cy A r0 σ0) args s 0 0 A) (F0 m 0 ls []) := by
  obtain ⟨hx, hb, hml, hown, hts, hr, hlocks⟩ := id hc
  unfold fm_number at hf
  refine lv_aload_n hx hb dX8_number_0 rfl (lv_at hl 0 rfl) ?_
  obtain ⟨r1, σ2, hkr1, hf⟩ := bd_e hf
  refine rm_calliV (av := []) (rest := []) hx hb hml hown hts hl.1 hK hA hB (cm_isDigit l D ad cy n σ hkr1) (kw_isDigit hts ⟨Nat.le_of_ble_eq_true rfl, Nat.le_of_ble_eq_true rfl⟩) rfl rfl (lv_room (Nat.le_of_ble_eq_true rfl)) dX8_number_1 (Nat.le_refl _) (Nat.le_refl _) (fun H locs hB => ?_)
  refine lv_if_ne (tgt := 9) hx hb dX8_number_4 (by decide) (fun c3 => ?_) (fun c3 => ?_)
  · have hf := it_f hf c3
    refine lv_aload_n hx hb dX8_number_9 rfl (lv_at hl 0 rfl) ?_
    obtain ⟨r4, σ5, hkr4, hf⟩ := bd_e hf
    refine rm_calliV (av := []) (rest := []) hx hb hml hown hts hl.1 hK hA hB (cm_sign l D ad cy n σ2 hkr4) (kw_sign hts ⟨Nat.le_of_ble_eq_true rfl, Nat.le_of_ble_eq_true rfl⟩) rfl rfl (lv_room (Nat.le_of_ble_eq_true rfl)) dX8_number_10 (Nat.le_refl _) (Nat.le_refl _) (fun H locs hB => ?_)
    refine lv_bipush (v := 48) hx hb dX8_number_13 (by decide) ?_
    refine lv_isub hx hb dX8_number_15 ?_
    refine lv_topi (fun y6 ey6 => ?_)
    have hf := sq_e hf y6 ey6
    refine lv_istore_n (lv' := [(1, .int y6), (0, .ref (ad 0))]) hx hb dX8_number_16 rfl hl (by decide) rfl (fun ls hl => ?_)
    refine lv_aload_n hx hb dX8_number_17 rfl (lv_at hl 1 rfl) ?_
    refine lv_dup hx hb dX8_number_18 rfl ?_
    refine rm_get hx hb hts inM hown hK hB 10 (Nat.le_of_ble_eq_true rfl) qf_99 rfl dX8_number_19 ?_
    refine lv_iconst (v := 1) hx hb dX8_number_22 (by decide) ?_
    refine lv_iadd hx hb dX8_number_23 ?_
    refine rm_puti hx hb hts inM hown hK hB 10 (Nat.le_of_ble_eq_true rfl) qf_99 (ms_10 _ _ _) rfl pd_10 rfl rfl dX8_number_24 (fun σ7 eσ7 H locs hB => ?_)
    have hf := sq_e hf σ7 eσ7
    refine lv_iconst (v := 1) hx hb dX8_number_27 (by decide) ?_
    refine lv_topi (fun y8 ey8 => ?_)
    have hf := sq_e hf y8 ey8
    refine lv_istore_n (lv' := [(2, .int y8), (1, .int y6), (0, .ref (ad 0))]) hx hb dX8_number_28 rfl hl (by decide) rfl (fun ls hl => ?_)
    exact tlm_number_29 hc hK hA n n σ7 y6 y8 _ _ _ hB (lv_sub hl [2, 1, 0] rfl) hf
  · have hf := it_t hf c3
    refine lv_iconst (v := (-1)) hx hb dX8_number_7 (by decide) ?_
    obtain ⟨rfl, rfl⟩ := so_e hf
    exact rm_iret hx hb hr hlocks hK hB dX8_number_8
theorem cm_number (l : Launch) (D : va_G) (ad : Nat → Nat) (cy : ClassId) (n : Nat) (σ : MS) {r0 : Int32} {σ0 : MS} (hf : fm_number n σ = some (r0, σ0)) : mMi l yX8_number wn_number rm_number D ad cy [.ref (ad 0)] σ r0 σ0 :=
  rm_meti (ret := (some .int)) (by decide) rfl (Nat.le_of_ble_eq_true rfl) (fun p e s m below meth c A ls hc hK hA hB hl => tbm_number_0 hc hK hA n σ hB hl hf)
theorem kw_number {R : Room} {s : State} {args : Array Value} (hts : ∀ w ∈ wsM, w.before args s = true) (hR : rm_number.frames + 1 ≤ R.frames ∧ 8 + (3 + 11) + rm_number.locals ≤ R.locals) : CallW R s args RX8 RX8 114 yX8_number cX8_number 3 (some .int) wn_number rm_number 0 0 0 := cwV 0 hts (gM_v qw_54 qw_55 qw_56 qw_37 qw_49) rfl rfl rfl (by decide +kernel) hR
/-! part -/
abbrev rm_part : Room := { frames := 3, cells := 0, slots := 0, locals := 64 }
abbrev wn_part : List Cond := .code yX8_part cX8_part 6 (some .int) :: wsM
def fm_part (n : Nat) (σ : MS) (x1 : Int32) (x2 : Int32) (x3 : Int32) : Option (Int32 × MS) := bd (fm_sign n σ) (fun r1 σ2 => if (r1 = x1) then (sq (mp σ2 0 10 ((σ2.1 0 10) + 1)) (fun σ4 => sq ((σ4.1 0 10) : Int32) (fun y5 => bd (fm_number n σ4) (fun r6 σ7 => if (r6 < 0) then (some (r6, σ7)) else (bd (fm_isIn n σ7 r6 x2 x3) (fun r9 σ10 => if (r9 = 0) then (sq (mp σ10 0 10 y5) (fun σ12 => some ((-1), σ12))) else (some (r6, σ10)))))))) else (some ((-1), σ2)))
set_option maxRecDepth 100000 in
set_option maxHeartbeats 4000000 in
theorem tbm_part_0 {p : Program} {l : Launch} {e : Env} {s : State} {m : MethodId} {args : Array Value} {below : List Frame} {meth : Method} {c : Code} {D : va_G} {A : Nat → Prop} {ad : Nat → Nat} {cy : ClassId} {r0 : Int32} {σ0 : MS} (hc : cxB RX8 wsM cX8_part 6 (some .int) p s m args meth c) (hK : va_K D vwCl [(cy, .int)] s) (hA : ∀ q, s.heap.size ≤ q → A q) (n : Nat) (σ : MS) (x1 : Int32) (x2 : Int32) (x3 : Int32) {H : Heap} {locs : List Loc} {ls : Array Slot} (hB : mB D ad cy A s.heap σ H locs) (hl : lv_has ls 6 [(0, .ref (ad 0)), (1, .int x1), (2, .int x2), (3, .int x3)]) (hf : fm_part n σ x1 x2 x3 = some (r0, σ0)) : W p l e rm_part s m args below meth c H locs 0 0 (MQ below (mQi D ad cy A r0 σ0) args s 0 0 A) (F0 m 0 ls []) := by
  obtain ⟨hx, hb, hml, hown, hts, hr, hlocks⟩ := id hc
  unfold fm_part at hf
  refine lv_aload_n hx hb dX8_part_0 rfl (lv_at hl 0 rfl) ?_
  obtain ⟨r1, σ2, hkr1, hf⟩ := bd_e hf
  refine rm_calliV (av := []) (rest := []) hx hb hml hown hts hl.1 hK hA hB (cm_sign l D ad cy n σ hkr1) (kw_sign hts ⟨Nat.le_of_ble_eq_true rfl, Nat.le_of_ble_eq_true rfl⟩) rfl rfl (lv_room (Nat.le_of_ble_eq_true rfl)) dX8_part_1 (Nat.le_refl _) (Nat.le_refl _) (fun H locs hB => ?_)
  refine lv_iload_n hx hb dX8_part_4 rfl (lv_at hl 1 rfl) ?_
  refine lv_icmp_eq (tgt := 10) hx hb dX8_part_5 (by decide) (fun c3 => ?_) (fun c3 => ?_)
  · have hf := it_t hf c3
    refine lv_aload_n hx hb dX8_part_10 rfl (lv_at hl 0 rfl) ?_
    refine lv_dup hx hb dX8_part_11 rfl ?_
    refine rm_get hx hb hts inM hown hK hB 10 (Nat.le_of_ble_eq_true rfl) qf_99 rfl dX8_part_12 ?_
    refine lv_iconst (v := 1) hx hb dX8_part_15 (by decide) ?_
    refine lv_iadd hx hb dX8_part_16 ?_
    refine rm_puti hx hb hts inM hown hK hB 10 (Nat.le_of_ble_eq_true rfl) qf_99 (ms_10 _ _ _) rfl pd_10 rfl rfl dX8_part_17 (fun σ4 eσ4 H locs hB => ?_)
    have hf := sq_e hf σ4 eσ4
    refine lv_aload_n hx hb dX8_part_20 rfl (lv_at hl 0 rfl) ?_
    refine rm_get hx hb hts inM hown hK hB 10 (Nat.le_of_ble_eq_true rfl) qf_99 rfl dX8_part_21 ?_
    refine lv_topi (fun y5 ey5 => ?_)
    have hf := sq_e hf y5 ey5
    refine lv_istore (lv' := [(4, .int y5), (0, .ref (ad 0)), (1, .int x1), (2, .int x2), (3, .int x3)]) hx hb dX8_part_24 hl (by decide) rfl (fun ls hl => ?_)
    refine lv_aload_n hx hb dX8_part_26 rfl (lv_at hl 1 rfl) ?_
    obtain ⟨r6, σ7, hkr6, hf⟩ := bd_e hf
    refine rm_calliV (av := []) (rest := []) hx hb hml hown hts hl.1 hK hA hB (cm_number l D ad cy n σ4 hkr6) (kw_number hts ⟨Nat.le_of_ble_eq_true rfl, Nat.le_of_ble_eq_true rfl⟩) rfl rfl (lv_room (Nat.le_of_ble_eq_true rfl)) dX8_part_27 (Nat.le_refl _) (Nat.le_refl _) (fun H locs hB => ?_)
    refine lv_istore (lv' := [(5, .int r6), (4, .int y5), (0, .ref (ad 0)), (1, .int x1), (2, .int x2), (3, .int x3)]) hx hb dX8_part_30 hl (by decide) rfl (fun ls hl => ?_)
    refine lv_iload hx hb dX8_part_32 (lv_at hl 0 rfl) ?_
    refine lv_if_lt (tgt := 55) hx hb dX8_part_34 (by decide) (fun c8 => ?_) (fun c8 => ?_)
    · have hf := it_t hf c8
      refine lv_iload hx hb dX8_part_55 (lv_at hl 0 rfl) ?_
      obtain ⟨rfl, rfl⟩ := so_e hf
      exact rm_iret hx hb hr hlocks hK hB dX8_part_57
    · have hf := it_f hf c8
      refine lv_iload hx hb dX8_part_37 (lv_at hl 0 rfl) ?_
      refine lv_iload_n hx hb dX8_part_39 rfl (lv_at hl 4 rfl) ?_
      refine lv_iload_n hx hb dX8_part_40 rfl (lv_at hl 5 rfl) ?_
      obtain ⟨r9, σ10, hkr9, hf⟩ := bd_e hf
      refine rm_calliS (av := [.int r6, .int x2, .int x3]) (rest := []) hx hb hml hown hts hl.1 hK hA hB (cm_isIn l D ad cy n σ7 r6 x2 x3 hkr9) (kw_isIn hts ⟨Nat.le_of_ble_eq_true rfl, Nat.le_of_ble_eq_true rfl⟩) rfl rfl (lv_room (Nat.le_of_ble_eq_true rfl)) dX8_part_41 (Nat.le_refl _) (Nat.le_refl _) (fun H locs hB => ?_)
      refine lv_if_ne (tgt := 55) hx hb dX8_part_44 (by decide) (fun c11 => ?_) (fun c11 => ?_)
      · have hf := it_f hf c11
        refine lv_iload hx hb dX8_part_55 (lv_at hl 0 rfl) ?_
        obtain ⟨rfl, rfl⟩ := so_e hf
        exact rm_iret hx hb hr hlocks hK hB dX8_part_57
      · have hf := it_t hf c11
        refine lv_aload_n hx hb dX8_part_47 rfl (lv_at hl 2 rfl) ?_
        refine lv_iload hx hb dX8_part_48 (lv_at hl 1 rfl) ?_
        refine rm_puti hx hb hts inM hown hK hB 10 (Nat.le_of_ble_eq_true rfl) qf_99 (ms_10 _ _ _) rfl pd_10 rfl rfl dX8_part_50 (fun σ12 eσ12 H locs hB => ?_)
        have hf := sq_e hf σ12 eσ12
        refine lv_iconst (v := (-1)) hx hb dX8_part_53 (by decide) ?_
        obtain ⟨rfl, rfl⟩ := so_e hf
        exact rm_iret hx hb hr hlocks hK hB dX8_part_54
  · have hf := it_f hf c3
    refine lv_iconst (v := (-1)) hx hb dX8_part_8 (by decide) ?_
    obtain ⟨rfl, rfl⟩ := so_e hf
    exact rm_iret hx hb hr hlocks hK hB dX8_part_9
theorem cm_part (l : Launch) (D : va_G) (ad : Nat → Nat) (cy : ClassId) (n : Nat) (σ : MS) (x1 : Int32) (x2 : Int32) (x3 : Int32) {r0 : Int32} {σ0 : MS} (hf : fm_part n σ x1 x2 x3 = some (r0, σ0)) : mMi l yX8_part wn_part rm_part D ad cy [.ref (ad 0), .int x1, .int x2, .int x3] σ r0 σ0 :=
  rm_meti (ret := (some .int)) (by decide) rfl (Nat.le_of_ble_eq_true rfl) (fun p e s m below meth c A ls hc hK hA hB hl => tbm_part_0 hc hK hA n σ x1 x2 x3 hB hl hf)
theorem kw_part {R : Room} {s : State} {args : Array Value} (hts : ∀ w ∈ wsM, w.before args s = true) (hR : rm_part.frames + 1 ≤ R.frames ∧ 8 + (6 + 11) + rm_part.locals ≤ R.locals) : CallW R s args RX8 RX8 117 yX8_part cX8_part 6 (some .int) wn_part rm_part 0 0 3 := cwV 3 hts (gM_v qw_58 qw_59 qw_60 qw_37 qw_53) rfl rfl rfl (by decide +kernel) hR
/-! perhaps -/
abbrev rm_perhaps : Room := { frames := 4, cells := 0, slots := 0, locals := 89 }
abbrev wn_perhaps : List Cond := .code yX8_perhaps cX8_perhaps 2 (some .int) :: wsM
def fm_perhaps (n : Nat) (σ : MS) (x1 : Int32) : Option (Int32 × MS) := bd (fm_sign n σ) (fun r1 σ2 => if (r1 = x1) then (bd (fm_part n σ2 x1 0 9) (fun r4 σ5 => some (r4, σ5))) else (some (0, σ2)))
set_option maxRecDepth 100000 in
set_option maxHeartbeats 4000000 in
theorem tbm_perhaps_0 {p : Program} {l : Launch} {e : Env} {s : State} {m : MethodId} {args : Array Value} {below : List Frame} {meth : Method} {c : Code} {D : va_G} {A : Nat → Prop} {ad : Nat → Nat} {cy : ClassId} {r0 : Int32} {σ0 : MS} (hc : cxB RX8 wsM cX8_perhaps 2 (some .int) p s m args meth c) (hK : va_K D vwCl [(cy, .int)] s) (hA : ∀ q, s.heap.size ≤ q → A q) (n : Nat) (σ : MS) (x1 : Int32) {H : Heap} {locs : List Loc} {ls : Array Slot} (hB : mB D ad cy A s.heap σ H locs) (hl : lv_has ls 2 [(0, .ref (ad 0)), (1, .int x1)]) (hf : fm_perhaps n σ x1 = some (r0, σ0)) : W p l e rm_perhaps s m args below meth c H locs 0 0 (MQ below (mQi D ad cy A r0 σ0) args s 0 0 A) (F0 m 0 ls []) := by
  obtain ⟨hx, hb, hml, hown, hts, hr, hlocks⟩ := id hc
  unfold fm_perhaps at hf
  refine lv_aload_n hx hb dX8_perhaps_0 rfl (lv_at hl 0 rfl) ?_
  obtain ⟨r1, σ2, hkr1, hf⟩ := bd_e hf
  refine rm_calliV (av := []) (rest := []) hx hb hml hown hts hl.1 hK hA hB (cm_sign l D ad cy n σ hkr1) (kw_sign hts ⟨Nat.le_of_ble_eq_true rfl, Nat.le_of_ble_eq_true rfl⟩) rfl rfl (lv_room (Nat.le_of_ble_eq_true rfl)) dX8_perhaps_1 (Nat.le_refl _) (Nat.le_refl _) (fun H locs hB => ?_)
  refine lv_iload_n hx hb dX8_perhaps_4 rfl (lv_at hl 1 rfl) ?_
  refine lv_icmp_ne (tgt := 19) hx hb dX8_perhaps_5 (by decide) (fun c3 => ?_) (fun c3 => ?_)
  · have hf := it_f hf c3
    refine lv_iconst (v := 0) hx hb dX8_perhaps_19 (by decide) ?_
    obtain ⟨rfl, rfl⟩ := so_e hf
    exact rm_iret hx hb hr hlocks hK hB dX8_perhaps_20
  · have hf := it_t hf c3
    refine lv_aload_n hx hb dX8_perhaps_8 rfl (lv_at hl 0 rfl) ?_
    refine lv_iload_n hx hb dX8_perhaps_9 rfl (lv_at hl 1 rfl) ?_
    refine lv_iconst (v := 0) hx hb dX8_perhaps_10 (by decide) ?_
    refine lv_bipush (v := 9) hx hb dX8_perhaps_11 (by decide) ?_
    obtain ⟨r4, σ5, hkr4, hf⟩ := bd_e hf
    refine rm_calliV (av := [.int x1, .int 0, .int 9]) (rest := []) hx hb hml hown hts hl.1 hK hA hB (cm_part l D ad cy n σ2 x1 0 9 hkr4) (kw_part hts ⟨Nat.le_of_ble_eq_true rfl, Nat.le_of_ble_eq_true rfl⟩) rfl rfl (lv_room (Nat.le_of_ble_eq_true rfl)) dX8_perhaps_13 (Nat.le_refl _) (Nat.le_refl _) (fun H locs hB => ?_)
    refine lv_goto (tgt := 20) hx hb dX8_perhaps_16 (by decide) ?_
    obtain ⟨rfl, rfl⟩ := so_e hf
    exact rm_iret hx hb hr hlocks hK hB dX8_perhaps_20
theorem cm_perhaps (l : Launch) (D : va_G) (ad : Nat → Nat) (cy : ClassId) (n : Nat) (σ : MS) (x1 : Int32) {r0 : Int32} {σ0 : MS} (hf : fm_perhaps n σ x1 = some (r0, σ0)) : mMi l yX8_perhaps wn_perhaps rm_perhaps D ad cy [.ref (ad 0), .int x1] σ r0 σ0 :=
  rm_meti (ret := (some .int)) (by decide) rfl (Nat.le_of_ble_eq_true rfl) (fun p e s m below meth c A ls hc hK hA hB hl => tbm_perhaps_0 hc hK hA n σ x1 hB hl hf)
theorem kw_perhaps {R : Room} {s : State} {args : Array Value} (hts : ∀ w ∈ wsM, w.before args s = true) (hR : rm_perhaps.frames + 1 ≤ R.frames ∧ 8 + (2 + 11) + rm_perhaps.locals ≤ R.locals) : CallW R s args RX8 RX8 120 yX8_perhaps cX8_perhaps 2 (some .int) wn_perhaps rm_perhaps 0 0 1 := cwV 1 hts (gM_v qw_62 qw_63 qw_64 qw_37 qw_57) rfl rfl rfl (by decide +kernel) hR
/-! readsPlate -/
abbrev rm_readsPlate : Room := { frames := 5, cells := 0, slots := 0, locals := 110 }
abbrev wn_readsPlate : List Cond := .code yX8_readsPlate cX8_readsPlate 6 (some .boolean) :: wsM
def fm_readsPlate (n : Nat) (σ : MS) : Option (Int32 × MS) := sq (mp σ 0 10 0) (fun σ1 => bd (fm_part n σ1 119 1 999) (fun r2 σ3 => if (0 ≤ r2) then (bd (fm_part n σ3 100 1 99) (fun r5 σ6 => if (0 ≤ r5) then (bd (fm_perhaps n σ6 101) (fun r8 σ9 => if (0 ≤ r8) then (bd (fm_perhaps n σ9 104) (fun r11 σ12 => if (0 ≤ r11) then (bd (fm_perhaps n σ12 98) (fun r14 σ15 => if (r14 < 0) then (some (0, σ15)) else (if ((σ15.1 0 9) ≤ (σ15.1 0 10)) then (ck (ib (σ15.1 0 11) 7) (sq (mp σ15 3 (Int32.toNatClampNeg (σ15.1 0 11)) r2) (fun σ19 => ck (ib (σ19.1 0 11) 7) (sq (mp σ19 4 (Int32.toNatClampNeg (σ19.1 0 11)) r5) (fun σ21 => ck (ib (σ21.1 0 11) 7) (sq (mp σ21 5 (Int32.toNatClampNeg (σ21.1 0 11)) r8) (fun σ23 => ck (ib (σ23.1 0 11) 7) (sq (mp σ23 6 (Int32.toNatClampNeg (σ23.1 0 11)) r11) (fun σ25 => ck (ib (σ25.1 0 11) 7) (sq (mp σ25 7 (Int32.toNatClampNeg (σ25.1 0 11)) r14) (fun σ27 => some (1, σ27)))))))))))) else (some (0, σ15))))) else (some (0, σ12)))) else (some (0, σ9)))) else (some (0, σ6)))) else (some (0, σ3))))
set_option maxRecDepth 100000 in
set_option maxHeartbeats 4000000 in
theorem tbm_readsPlate_0 {p : Program} {l : Launch} {e : Env} {s : State} {m : MethodId} {args : Array Value} {below : List Frame} {meth : Method} {c : Code} {D : va_G} {A : Nat → Prop} {ad : Nat → Nat} {cy : ClassId} {r0 : Int32} {σ0 : MS} (hc : cxB RX8 wsM cX8_readsPlate 6 (some .boolean) p s m args meth c) (hK : va_K D vwCl [(cy, .int)] s) (hA : ∀ q, s.heap.size ≤ q → A q) (n : Nat) (σ : MS) {H : Heap} {locs : List Loc} {ls : Array Slot} (hB : mB D ad cy A s.heap σ H locs) (hl : lv_has ls 6 [(0, .ref (ad 0))]) (hf : fm_readsPlate n σ = some (r0, σ0)) : W p l e rm_readsPlate s m args below meth c H locs 0 0 (MQ below (mQi D ad cy A r0 σ0) args s 0 0 A) (F0 m 0 ls []) := by
  obtain ⟨hx, hb, hml, hown, hts, hr, hlocks⟩ := id hc
  unfold fm_readsPlate at hf
  refine lv_aload_n hx hb dX8_readsPlate_0 rfl (lv_at hl 0 rfl) ?_
  refine lv_iconst (v := 0) hx hb dX8_readsPlate_1 (by decide) ?_
  refine rm_puti hx hb hts inM hown hK hB 10 (Nat.le_of_ble_eq_true rfl) qf_99 (ms_10 _ _ _) rfl pd_10 rfl rfl dX8_readsPlate_2 (fun σ1 eσ1 H locs hB => ?_)
  have hf := sq_e hf σ1 eσ1
  refine lv_aload_n hx hb dX8_readsPlate_5 rfl (lv_at hl 0 rfl) ?_
  refine lv_bipush (v := 119) hx hb dX8_readsPlate_6 (by decide) ?_
  refine lv_iconst (v := 1) hx hb dX8_readsPlate_8 (by decide) ?_
  refine lv_sipush (v := 999) hx hb dX8_readsPlate_9 (by decide) ?_
  obtain ⟨r2, σ3, hkr2, hf⟩ := bd_e hf
  refine rm_calliV (av := [.int 119, .int 1, .int 999]) (rest := []) hx hb hml hown hts hl.1 hK hA hB (cm_part l D ad cy n σ1 119 1 999 hkr2) (kw_part hts ⟨Nat.le_of_ble_eq_true rfl, Nat.le_of_ble_eq_true rfl⟩) rfl rfl (lv_room (Nat.le_of_ble_eq_true rfl)) dX8_readsPlate_12 (Nat.le_refl _) (Nat.le_refl _) (fun H locs hB => ?_)
  refine lv_istore_n (lv' := [(1, .int r2), (0, .ref (ad 0))]) hx hb dX8_readsPlate_15 rfl hl (by decide) rfl (fun ls hl => ?_)
  refine lv_iload_n hx hb dX8_readsPlate_16 rfl (lv_at hl 0 rfl) ?_
  refine lv_if_ge (tgt := 22) hx hb dX8_readsPlate_17 (by decide) (fun c4 => ?_) (fun c4 => ?_)
  · have hf := it_t hf c4
    refine lv_aload_n hx hb dX8_readsPlate_22 rfl (lv_at hl 1 rfl) ?_
    refine lv_bipush (v := 100) hx hb dX8_readsPlate_23 (by decide) ?_
    refine lv_iconst (v := 1) hx hb dX8_readsPlate_25 (by decide) ?_
    refine lv_bipush (v := 99) hx hb dX8_readsPlate_26 (by decide) ?_
    obtain ⟨r5, σ6, hkr5, hf⟩ := bd_e hf
    refine rm_calliV (av := [.int 100, .int 1, .int 99]) (rest := []) hx hb hml hown hts hl.1 hK hA hB (cm_part l D ad cy n σ3 100 1 99 hkr5) (kw_part hts ⟨Nat.le_of_ble_eq_true rfl, Nat.le_of_ble_eq_true rfl⟩) rfl rfl (lv_room (Nat.le_of_ble_eq_true rfl)) dX8_readsPlate_28 (Nat.le_refl _) (Nat.le_refl _) (fun H locs hB => ?_)
    refine lv_istore_n (lv' := [(2, .int r5), (1, .int r2), (0, .ref (ad 0))]) hx hb dX8_readsPlate_31 rfl hl (by decide) rfl (fun ls hl => ?_)
    refine lv_iload_n hx hb dX8_readsPlate_32 rfl (lv_at hl 0 rfl) ?_
    refine lv_if_ge (tgt := 38) hx hb dX8_readsPlate_33 (by decide) (fun c7 => ?_) (fun c7 => ?_)
    · have hf := it_t hf c7
      refine lv_aload_n hx hb dX8_readsPlate_38 rfl (lv_at hl 2 rfl) ?_
      refine lv_bipush (v := 101) hx hb dX8_readsPlate_39 (by decide) ?_
      obtain ⟨r8, σ9, hkr8, hf⟩ := bd_e hf
      refine rm_calliV (av := [.int 101]) (rest := []) hx hb hml hown hts hl.1 hK hA hB (cm_perhaps l D ad cy n σ6 101 hkr8) (kw_perhaps hts ⟨Nat.le_of_ble_eq_true rfl, Nat.le_of_ble_eq_true rfl⟩) rfl rfl (lv_room (Nat.le_of_ble_eq_true rfl)) dX8_readsPlate_41 (Nat.le_refl _) (Nat.le_refl _) (fun H locs hB => ?_)
      refine lv_istore_n (lv' := [(3, .int r8), (2, .int r5), (1, .int r2), (0, .ref (ad 0))]) hx hb dX8_readsPlate_44 rfl hl (by decide) rfl (fun ls hl => ?_)
      refine lv_iload_n hx hb dX8_readsPlate_45 rfl (lv_at hl 0 rfl) ?_
      refine lv_if_ge (tgt := 51) hx hb dX8_readsPlate_46 (by decide) (fun c10 => ?_) (fun c10 => ?_)
      · have hf := it_t hf c10
        refine lv_aload_n hx hb dX8_readsPlate_51 rfl (lv_at hl 3 rfl) ?_
        refine lv_bipush (v := 104) hx hb dX8_readsPlate_52 (by decide) ?_
        obtain ⟨r11, σ12, hkr11, hf⟩ := bd_e hf
        refine rm_calliV (av := [.int 104]) (rest := []) hx hb hml hown hts hl.1 hK hA hB (cm_perhaps l D ad cy n σ9 104 hkr11) (kw_perhaps hts ⟨Nat.le_of_ble_eq_true rfl, Nat.le_of_ble_eq_true rfl⟩) rfl rfl (lv_room (Nat.le_of_ble_eq_true rfl)) dX8_readsPlate_54 (Nat.le_refl _) (Nat.le_refl _) (fun H locs hB => ?_)
        refine lv_istore (lv' := [(4, .int r11), (3, .int r8), (2, .int r5), (1, .int r2), (0, .ref (ad 0))]) hx hb dX8_readsPlate_57 hl (by decide) rfl (fun ls hl => ?_)
        refine lv_iload hx hb dX8_readsPlate_59 (lv_at hl 0 rfl) ?_
        refine lv_if_ge (tgt := 66) hx hb dX8_readsPlate_61 (by decide) (fun c13 => ?_) (fun c13 => ?_)
        · have hf := it_t hf c13
          refine lv_aload_n hx hb dX8_readsPlate_66 rfl (lv_at hl 4 rfl) ?_
          refine lv_bipush (v := 98) hx hb dX8_readsPlate_67 (by decide) ?_
          obtain ⟨r14, σ15, hkr14, hf⟩ := bd_e hf
          refine rm_calliV (av := [.int 98]) (rest := []) hx hb hml hown hts hl.1 hK hA hB (cm_perhaps l D ad cy n σ12 98 hkr14) (kw_perhaps hts ⟨Nat.le_of_ble_eq_true rfl, Nat.le_of_ble_eq_true rfl⟩) rfl rfl (lv_room (Nat.le_of_ble_eq_true rfl)) dX8_readsPlate_69 (Nat.le_refl _) (Nat.le_refl _) (fun H locs hB => ?_)
          refine lv_istore (lv' := [(5, .int r14), (4, .int r11), (3, .int r8), (2, .int r5), (1, .int r2), (0, .ref (ad 0))]) hx hb dX8_readsPlate_72 hl (by decide) rfl (fun ls hl => ?_)
          refine lv_iload hx hb dX8_readsPlate_74 (lv_at hl 0 rfl) ?_
          refine lv_if_lt (tgt := 90) hx hb dX8_readsPlate_76 (by decide) (fun c16 => ?_) (fun c16 => ?_)
          · have hf := it_t hf c16
            refine lv_iconst (v := 0) hx hb dX8_readsPlate_90 (by decide) ?_
            obtain ⟨rfl, rfl⟩ := so_e hf
            exact rm_zret hx hb hr hlocks rfl hK hB dX8_readsPlate_91
          · have hf := it_f hf c16
            refine lv_aload_n hx hb dX8_readsPlate_79 rfl (lv_at hl 5 rfl) ?_
            refine rm_get hx hb hts inM hown hK hB 10 (Nat.le_of_ble_eq_true rfl) qf_99 rfl dX8_readsPlate_80 ?_
            refine lv_aload_n hx hb dX8_readsPlate_83 rfl (lv_at hl 5 rfl) ?_
            refine rm_get hx hb hts inM hown hK hB 9 (Nat.le_of_ble_eq_true rfl) qf_90 rfl dX8_readsPlate_84 ?_
            refine lv_icmp_ge (tgt := 92) hx hb dX8_readsPlate_87 (by decide) (fun c17 => ?_) (fun c17 => ?_)
            · have hf := it_t hf c17
              refine lv_aload_n hx hb dX8_readsPlate_92 rfl (lv_at hl 5 rfl) ?_
              refine rm_get hx hb hts inM hown hK hB 2 (Nat.le_of_ble_eq_true rfl) qf_16 rfl dX8_readsPlate_93 ?_
              refine lv_aload_n hx hb dX8_readsPlate_96 rfl (lv_at hl 5 rfl) ?_
              refine rm_get hx hb hts inM hown hK hB 11 (Nat.le_of_ble_eq_true rfl) qf_123 rfl dX8_readsPlate_97 ?_
              refine lv_iload_n hx hb dX8_readsPlate_100 rfl (lv_at hl 4 rfl) ?_
              obtain ⟨k18, hf⟩ := ck_e hf
              refine rm_ast hx hb hK hB 3 rfl (msa_3 _ _ _) k18 dX8_readsPlate_101 (fun σ19 eσ19 H locs hB => ?_)
              have hf := sq_e hf σ19 eσ19
              refine lv_aload_n hx hb dX8_readsPlate_102 rfl (lv_at hl 5 rfl) ?_
              refine rm_get hx hb hts inM hown hK hB 3 (Nat.le_of_ble_eq_true rfl) qf_19 rfl dX8_readsPlate_103 ?_
              refine lv_aload_n hx hb dX8_readsPlate_106 rfl (lv_at hl 5 rfl) ?_
              refine rm_get hx hb hts inM hown hK hB 11 (Nat.le_of_ble_eq_true rfl) qf_123 rfl dX8_readsPlate_107 ?_
              refine lv_iload_n hx hb dX8_readsPlate_110 rfl (lv_at hl 3 rfl) ?_
              obtain ⟨k20, hf⟩ := ck_e hf
              refine rm_ast hx hb hK hB 4 rfl (msa_4 _ _ _) k20 dX8_readsPlate_111 (fun σ21 eσ21 H locs hB => ?_)
              have hf := sq_e hf σ21 eσ21
              refine lv_aload_n hx hb dX8_readsPlate_112 rfl (lv_at hl 5 rfl) ?_
              refine rm_get hx hb hts inM hown hK hB 4 (Nat.le_of_ble_eq_true rfl) qf_22 rfl dX8_readsPlate_113 ?_
              refine lv_aload_n hx hb dX8_readsPlate_116 rfl (lv_at hl 5 rfl) ?_
              refine rm_get hx hb hts inM hown hK hB 11 (Nat.le_of_ble_eq_true rfl) qf_123 rfl dX8_readsPlate_117 ?_
              refine lv_iload_n hx hb dX8_readsPlate_120 rfl (lv_at hl 2 rfl) ?_
              obtain ⟨k22, hf⟩ := ck_e hf
              refine rm_ast hx hb hK hB 5 rfl (msa_5 _ _ _) k22 dX8_readsPlate_121 (fun σ23 eσ23 H locs hB => ?_)
              have hf := sq_e hf σ23 eσ23
              refine lv_aload_n hx hb dX8_readsPlate_122 rfl (lv_at hl 5 rfl) ?_
              refine rm_get hx hb hts inM hown hK hB 5 (Nat.le_of_ble_eq_true rfl) qf_25 rfl dX8_readsPlate_123 ?_
              refine lv_aload_n hx hb dX8_readsPlate_126 rfl (lv_at hl 5 rfl) ?_
              refine rm_get hx hb hts inM hown hK hB 11 (Nat.le_of_ble_eq_true rfl) qf_123 rfl dX8_readsPlate_127 ?_
              refine lv_iload hx hb dX8_readsPlate_130 (lv_at hl 1 rfl) ?_
              obtain ⟨k24, hf⟩ := ck_e hf
              refine rm_ast hx hb hK hB 6 rfl (msa_6 _ _ _) k24 dX8_readsPlate_132 (fun σ25 eσ25 H locs hB => ?_)
              have hf := sq_e hf σ25 eσ25
              refine lv_aload_n hx hb dX8_readsPlate_133 rfl (lv_at hl 5 rfl) ?_
              refine rm_get hx hb hts inM hown hK hB 6 (Nat.le_of_ble_eq_true rfl) qf_28 rfl dX8_readsPlate_134 ?_
              refine lv_aload_n hx hb dX8_readsPlate_137 rfl (lv_at hl 5 rfl) ?_
              refine rm_get hx hb hts inM hown hK hB 11 (Nat.le_of_ble_eq_true rfl) qf_123 rfl dX8_readsPlate_138 ?_
              refine lv_iload hx hb dX8_readsPlate_141 (lv_at hl 0 rfl) ?_
              obtain ⟨k26, hf⟩ := ck_e hf
              refine rm_ast hx hb hK hB 7 rfl (msa_7 _ _ _) k26 dX8_readsPlate_143 (fun σ27 eσ27 H locs hB => ?_)
              have hf := sq_e hf σ27 eσ27
              refine lv_iconst (v := 1) hx hb dX8_readsPlate_144 (by decide) ?_
              obtain ⟨rfl, rfl⟩ := so_e hf
              exact rm_zret hx hb hr hlocks rfl hK hB dX8_readsPlate_145
            · have hf := it_f hf c17
              refine lv_iconst (v := 0) hx hb dX8_readsPlate_90 (by decide) ?_
              obtain ⟨rfl, rfl⟩ := so_e hf
              exact rm_zret hx hb hr hlocks rfl hK hB dX8_readsPlate_91
        · have hf := it_f hf c13
          refine lv_iconst (v := 0) hx hb dX8_readsPlate_64 (by decide) ?_
          obtain ⟨rfl, rfl⟩ := so_e hf
          exact rm_zret hx hb hr hlocks rfl hK hB dX8_readsPlate_65
      · have hf := it_f hf c10
        refine lv_iconst (v := 0) hx hb dX8_readsPlate_49 (by decide) ?_
        obtain ⟨rfl, rfl⟩ := so_e hf
        exact rm_zret hx hb hr hlocks rfl hK hB dX8_readsPlate_50
    · have hf := it_f hf c7
      refine lv_iconst (v := 0) hx hb dX8_readsPlate_36 (by decide) ?_
      obtain ⟨rfl, rfl⟩ := so_e hf
      exact rm_zret hx hb hr hlocks rfl hK hB dX8_readsPlate_37
  · have hf := it_f hf c4
    refine lv_iconst (v := 0) hx hb dX8_readsPlate_20 (by decide) ?_
    obtain ⟨rfl, rfl⟩ := so_e hf
    exact rm_zret hx hb hr hlocks rfl hK hB dX8_readsPlate_21
theorem cm_readsPlate (l : Launch) (D : va_G) (ad : Nat → Nat) (cy : ClassId) (n : Nat) (σ : MS) {r0 : Int32} {σ0 : MS} (hf : fm_readsPlate n σ = some (r0, σ0)) : mMi l yX8_readsPlate wn_readsPlate rm_readsPlate D ad cy [.ref (ad 0)] σ r0 σ0 :=
  rm_meti (ret := (some .boolean)) (by decide) rfl (Nat.le_of_ble_eq_true rfl) (fun p e s m below meth c A ls hc hK hA hB hl => tbm_readsPlate_0 hc hK hA n σ hB hl hf)
theorem kw_readsPlate {R : Room} {s : State} {args : Array Value} (hts : ∀ w ∈ wsM, w.before args s = true) (hR : rm_readsPlate.frames + 1 ≤ R.frames ∧ 8 + (6 + 11) + rm_readsPlate.locals ≤ R.locals) : CallW R s args RX8 RX8 126 yX8_readsPlate cX8_readsPlate 6 (some .boolean) wn_readsPlate rm_readsPlate 0 0 0 := cwV 0 hts (gM_v qw_66 qw_67 qw_68 qw_37 qw_65) rfl rfl rfl (by decide +kernel) hR
