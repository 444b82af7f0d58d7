/-! hush -/
abbrev rm_hush : Room := { frames := 0, cells := 0, slots := 0, locals := 0 }
abbrev wn_hush : List Cond := .code yX8_hush cX8_hush 2 (some .int) :: wsM
def fm_hush (n : Nat) (σ : MS) : Option (Int32 × MS) := sq ((σ.1 0 48) : Int32) (fun y1 => sq (mp σ 0 48 0) (fun σ2 => some (y1, σ2)))
set_option maxRecDepth 100000 in
set_option maxHeartbeats 4000000 in
theorem tbm_hush_0 {p : Program} {l : Launch} {e : Env} {s : State} {m : MethodId} {args : Array Value} {below : List Frame} {meth : Method} {c : Code} {D : va_G} {A : Nat → Prop} {ad : Nat → Nat} {cy : ClassId} {r0 : Int32} {σ0 : MS} (hc : cxB RX8 wsM cX8_hush 2 (some .int) p s m args meth c) (hK : va_K D vwCl [(cy, .int)] s) (hA : ∀ q, s.heap.size ≤ q → A q) (n : Nat) (σ : MS) {H : Heap} {locs : List Loc} {ls : Array Slot} (hB : mB D ad cy A s.heap σ H locs) (hl : lv_has ls 2 [(0, .ref (ad 0))]) (hf : fm_hush n σ = some (r0, σ0)) : W p l e rm_hush s m args below meth c H locs 0 0 (MQ below (mQi D ad cy A r0 σ0) args s 0 0 A) (F0 m 0 ls []) := by
  obtain ⟨hx, hb, hml, hown, hts, hr, hlocks⟩ := id hc
  unfold fm_hush at hf
  refine lv_aload_n hx hb dX8_hush_0 rfl (lv_at hl 0 rfl) ?_
  refine rm_get hx hb hts inM hown hK hB 48 (Nat.le_of_ble_eq_true rfl) qf_282 rfl dX8_hush_1 ?_
  refine lv_topi (fun y1 ey1 => ?_)
  have hf := sq_e hf y1 ey1
  refine lv_istore_n (lv' := [(1, .int y1), (0, .ref (ad 0))]) hx hb dX8_hush_4 rfl hl (by decide) rfl (fun ls hl => ?_)
  refine lv_aload_n hx hb dX8_hush_5 rfl (lv_at hl 1 rfl) ?_
  refine lv_iconst (v := 0) hx hb dX8_hush_6 (by decide) ?_
  refine rm_puti hx hb hts inM hown hK hB 48 (Nat.le_of_ble_eq_true rfl) qf_282 (ms_48 _ _ _) rfl pd_48 rfl rfl dX8_hush_7 (fun σ2 eσ2 H locs hB => ?_)
  have hf := sq_e hf σ2 eσ2
  refine lv_iload_n hx hb dX8_hush_10 rfl (lv_at hl 0 rfl) ?_
  obtain ⟨rfl, rfl⟩ := so_e hf
  exact rm_iret hx hb hr hlocks hK hB dX8_hush_11
theorem cm_hush (l : Launch) (D : va_G) (ad : Nat → Nat) (cy : ClassId) (n : Nat) (σ : MS) {r0 : Int32} {σ0 : MS} (hf : fm_hush n σ = some (r0, σ0)) : mMi l yX8_hush wn_hush rm_hush D ad cy [.ref (ad 0)] σ r0 σ0 :=
  rm_meti (ret := (some .int)) (by decide) rfl (Nat.le_of_ble_eq_true rfl) (fun p e s m below meth c A ls hc hK hA hB hl => tbm_hush_0 hc hK hA n σ hB hl hf)
/-! slip -/
abbrev rm_slip : Room := { frames := 1, cells := 0, slots := 0, locals := 22 }
abbrev wn_slip : List Cond := .code yX8_slip cX8_slip 4 (some .int) :: wsM
def fm_slip (n : Nat) (σ : MS) (x1 : Int32) : Option (Int32 × MS) := bd (fm_bound n σ x1 0 999) (fun r1 σ2 => if (r1 = 0) then (sq ((σ2.1 0 49) : Int32) (fun y4 => sq (mp σ2 0 49 x1) (fun σ5 => some (y4, σ5)))) else (bd (fm_no n σ2 r1) (fun r6 σ7 => some (r6, σ7))))
set_option maxRecDepth 100000 in
set_option maxHeartbeats 4000000 in
theorem tbm_slip_0 {p : Program} {l : Launch} {e : Env} {s : State} {m : MethodId} {args : Array Value} {below : List Frame} {meth : Method} {c : Code} {D : va_G} {A : Nat → Prop} {ad : Nat → Nat} {cy : ClassId} {r0 : Int32} {σ0 : MS} (hc : cxB RX8 wsM cX8_slip 4 (some .int) p s m args meth c) (hK : va_K D vwCl [(cy, .int)] s) (hA : ∀ q, s.heap.size ≤ q → A q) (n : Nat) (σ : MS) (x1 : Int32) {H : Heap} {locs : List Loc} {ls : Array Slot} (hB : mB D ad cy A s.heap σ H locs) (hl : lv_has ls 4 [(0, .ref (ad 0)), (1, .int x1)]) (hf : fm_slip n σ x1 = some (r0, σ0)) : W p l e rm_slip s m args below meth c H locs 0 0 (MQ below (mQi D ad cy A r0 σ0) args s 0 0 A) (F0 m 0 ls []) := by
  obtain ⟨hx, hb, hml, hown, hts, hr, hlocks⟩ := id hc
  unfold fm_slip at hf
  refine lv_iload_n hx hb dX8_slip_0 rfl (lv_at hl 1 rfl) ?_
  refine lv_iconst (v := 0) hx hb dX8_slip_1 (by decide) ?_
  refine lv_sipush (v := 999) hx hb dX8_slip_2 (by decide) ?_
  obtain ⟨r1, σ2, hkr1, hf⟩ := bd_e hf
  refine rm_calliS (av := [.int x1, .int 0, .int 999]) (rest := []) hx hb hml hown hts hl.1 hK hA hB (cm_bound l D ad cy n σ x1 0 999 hkr1) (kw_bound hts ⟨Nat.le_of_ble_eq_true rfl, Nat.le_of_ble_eq_true rfl⟩) rfl rfl (lv_room (Nat.le_of_ble_eq_true rfl)) dX8_slip_5 (Nat.le_refl _) (Nat.le_refl _) (fun H locs hB => ?_)
  refine lv_istore_n (lv' := [(2, .int r1), (0, .ref (ad 0)), (1, .int x1)]) hx hb dX8_slip_8 rfl hl (by decide) rfl (fun ls hl => ?_)
  refine lv_iload_n hx hb dX8_slip_9 rfl (lv_at hl 0 rfl) ?_
  refine lv_if_eq (tgt := 19) hx hb dX8_slip_10 (by decide) (fun c3 => ?_) (fun c3 => ?_)
  · have hf := it_t hf c3
    refine lv_aload_n hx hb dX8_slip_19 rfl (lv_at hl 1 rfl) ?_
    refine rm_get hx hb hts inM hown hK hB 49 (Nat.le_of_ble_eq_true rfl) qf_285 rfl dX8_slip_20 ?_
    refine lv_topi (fun y4 ey4 => ?_)
    have hf := sq_e hf y4 ey4
    refine lv_istore_n (lv' := [(3, .int y4), (2, .int r1), (0, .ref (ad 0)), (1, .int x1)]) hx hb dX8_slip_23 rfl hl (by decide) rfl (fun ls hl => ?_)
    refine lv_aload_n hx hb dX8_slip_24 rfl (lv_at hl 2 rfl) ?_
    refine lv_iload_n hx hb dX8_slip_25 rfl (lv_at hl 3 rfl) ?_
    refine rm_puti hx hb hts inM hown hK hB 49 (Nat.le_of_ble_eq_true rfl) qf_285 (ms_49 _ _ _) rfl pd_49 rfl rfl dX8_slip_26 (fun σ5 eσ5 H locs hB => ?_)
    have hf := sq_e hf σ5 eσ5
    refine lv_iload_n hx hb dX8_slip_29 rfl (lv_at hl 0 rfl) ?_
    obtain ⟨rfl, rfl⟩ := so_e hf
    exact rm_iret hx hb hr hlocks hK hB dX8_slip_30
  · have hf := it_f hf c3
    refine lv_aload_n hx hb dX8_slip_13 rfl (lv_at hl 1 rfl) ?_
    refine lv_iload_n hx hb dX8_slip_14 rfl (lv_at hl 0 rfl) ?_
    obtain ⟨r6, σ7, hkr6, hf⟩ := bd_e hf
    refine rm_calliV (av := [.int r1]) (rest := []) hx hb hml hown hts hl.1 hK hA hB (cm_no l D ad cy n σ2 r1 hkr6) (kw_no hts ⟨Nat.le_of_ble_eq_true rfl, Nat.le_of_ble_eq_true rfl⟩) rfl rfl (lv_room (Nat.le_of_ble_eq_true rfl)) dX8_slip_15 (Nat.le_refl _) (Nat.le_refl _) (fun H locs hB => ?_)
    obtain ⟨rfl, rfl⟩ := so_e hf
    exact rm_iret hx hb hr hlocks hK hB dX8_slip_18
theorem cm_slip (l : Launch) (D : va_G) (ad : Nat → Nat) (cy : ClassId) (n : Nat) (σ : MS) (x1 : Int32) {r0 : Int32} {σ0 : MS} (hf : fm_slip n σ x1 = some (r0, σ0)) : mMi l yX8_slip wn_slip rm_slip D ad cy [.ref (ad 0), .int x1] σ r0 σ0 :=
  rm_meti (ret := (some .int)) (by decide) rfl (Nat.le_of_ble_eq_true rfl) (fun p e s m below meth c A ls hc hK hA hB hl => tbm_slip_0 hc hK hA n σ x1 hB hl hf)
/-! offs -/
abbrev rm_offs : Room := { frames := 5, cells := 0, slots := 0, locals := 125 }
abbrev wn_offs : List Cond := .code yX8_offs cX8_offs 6 (some .int) :: wsM
def bm_offs_150 (n : Nat) (K9 : MS → Int32 → Int32 → Int32 → Option (Int32 × MS)) (σ : MS) (x1 : Int32) (x2 : Int32) (x3 : Int32) (x5 : Int32) : Option (Int32 × MS) := sq ((x2 + x5) : Int32) (fun y1 => sq (x3 + 1 : Int32) (fun y2 => K9 σ x1 y1 y2))
set_option maxRecDepth 100000 in
set_option maxHeartbeats 4000000 in
theorem tbm_offs_150 {p : Program} {l : Launch} {e : Env} {s : State} {m : MethodId} {args : Array Value} {below : List Frame} {meth : Method} {c : Code} {D : va_G} {A : Nat → Prop} {ad : Nat → Nat} {cy : ClassId} {r0 : Int32} {σ0 : MS} (hc : cxB RX8 wsM cX8_offs 6 (some .int) p s m args meth c) (hK : va_K D vwCl [(cy, .int)] s) (hA : ∀ q, s.heap.size ≤ q → A q) (n : Nat) (K9 : MS → Int32 → Int32 → Int32 → Option (Int32 × MS)) (hK9 : ∀ (σ : MS) (x1 : Int32) (x2 : Int32) (x3 : Int32) (H : Heap) (locs : List Loc) (ls : Array Slot), mB D ad cy A s.heap σ H locs → lv_has ls 6 [(0, .ref (ad 0)), (1, .int x1), (2, .int x2), (3, .int x3)] → K9 σ x1 x2 x3 = some (r0, σ0) → W p l e rm_offs s m args below meth c H locs 0 0 (MQ below (mQi D ad cy A r0 σ0) args s 0 0 A) (F0 m 9 ls [])) (σ : MS) (x1 : Int32) (x2 : Int32) (x3 : Int32) (x5 : Int32) {H : Heap} {locs : List Loc} {ls : Array Slot} (hB : mB D ad cy A s.heap σ H locs) (hl : lv_has ls 6 [(0, .ref (ad 0)), (1, .int x1), (2, .int x2), (3, .int x3), (5, .int x5)]) (hf : bm_offs_150 n K9 σ x1 x2 x3 x5 = some (r0, σ0)) : W p l e rm_offs s m args below meth c H locs 0 0 (MQ below (mQi D ad cy A r0 σ0) args s 0 0 A) (F0 m 150 ls []) := by
  obtain ⟨hx, hb, hml, hown, hts, hr, hlocks⟩ := id hc
  unfold bm_offs_150 at hf
  refine lv_iload_n hx hb dX8_offs_150 rfl (lv_at hl 2 rfl) ?_
  refine lv_iload hx hb dX8_offs_151 (lv_at hl 4 rfl) ?_
  refine lv_iadd hx hb dX8_offs_153 ?_
  refine lv_topi (fun y1 ey1 => ?_)
  have hf := sq_e hf y1 ey1
  refine lv_istore_n (lv' := [(2, .int y1), (0, .ref (ad 0)), (1, .int x1), (3, .int x3), (5, .int x5)]) hx hb dX8_offs_154 rfl hl (by decide) rfl (fun ls hl => ?_)
  obtain ⟨y2, ey2⟩ : ∃ z : Int32, z = x3 + 1 := ⟨_, rfl⟩
  have hf := sq_e hf y2 ey2
  refine lv_iinc (v := y2) (lv' := [(3, .int y2), (2, .int y1), (0, .ref (ad 0)), (1, .int x1), (5, .int x5)]) hx hb dX8_offs_155 hl (k := 3) rfl (by rw [ey2]; rfl) (by decide) rfl (fun ls hl => ?_)
  refine lv_goto (tgt := 9) hx hb dX8_offs_158 (by decide) ?_
  exact hK9 σ x1 y1 y2 _ _ _ hB (lv_sub hl [2, 3, 1, 0] rfl) hf
def bm_offs_122 (n : Nat) (K9 : MS → Int32 → Int32 → Int32 → Option (Int32 × MS)) (σ : MS) (x1 : Int32) (x2 : Int32) (x3 : Int32) (t0 : Int32) : Option (Int32 × MS) := if (x1 = 0) then (bm_offs_150 n K9 σ x1 x2 x3 t0) else (if ((σ.1 0 29) < (10 * x3)) then (some (x3, σ)) else (if (t0 ≤ (σ.1 0 49)) then (bm_offs_150 n K9 σ x1 x2 x3 t0) else (some (x3, σ))))
set_option maxRecDepth 100000 in
set_option maxHeartbeats 4000000 in
theorem tbm_offs_122 {p : Program} {l : Launch} {e : Env} {s : State} {m : MethodId} {args : Array Value} {below : List Frame} {meth : Method} {c : Code} {D : va_G} {A : Nat → Prop} {ad : Nat → Nat} {cy : ClassId} {r0 : Int32} {σ0 : MS} (hc : cxB RX8 wsM cX8_offs 6 (some .int) p s m args meth c) (hK : va_K D vwCl [(cy, .int)] s) (hA : ∀ q, s.heap.size ≤ q → A q) (n : Nat) (K9 : MS → Int32 → Int32 → Int32 → Option (Int32 × MS)) (hK9 : ∀ (σ : MS) (x1 : Int32) (x2 : Int32) (x3 : Int32) (H : Heap) (locs : List Loc) (ls : Array Slot), mB D ad cy A s.heap σ H locs → lv_has ls 6 [(0, .ref (ad 0)), (1, .int x1), (2, .int x2), (3, .int x3)] → K9 σ x1 x2 x3 = some (r0, σ0) → W p l e rm_offs s m args below meth c H locs 0 0 (MQ below (mQi D ad cy A r0 σ0) args s 0 0 A) (F0 m 9 ls [])) (σ : MS) (x1 : Int32) (x2 : Int32) (x3 : Int32) (t0 : Int32) {H : Heap} {locs : List Loc} {ls : Array Slot} (hB : mB D ad cy A s.heap σ H locs) (hl : lv_has ls 6 [(0, .ref (ad 0)), (1, .int x1), (2, .int x2), (3, .int x3)]) (hf : bm_offs_122 n K9 σ x1 x2 x3 t0 = some (r0, σ0)) : W p l e rm_offs s m args below meth c H locs 0 0 (MQ below (mQi D ad cy A r0 σ0) args s 0 0 A) (F0 m 122 ls [.int t0]) := by
  obtain ⟨hx, hb, hml, hown, hts, hr, hlocks⟩ := id hc
  unfold bm_offs_122 at hf
  refine lv_istore (lv' := [(5, .int t0), (0, .ref (ad 0)), (1, .int x1), (2, .int x2), (3, .int x3)]) hx hb dX8_offs_122 hl (by decide) rfl (fun ls hl => ?_)
  refine lv_iload_n hx hb dX8_offs_124 rfl (lv_at hl 2 rfl) ?_
  refine lv_if_eq (tgt := 150) hx hb dX8_offs_125 (by decide) (fun c1 => ?_) (fun c1 => ?_)
  · have hf := it_t hf c1
    exact tbm_offs_150 hc hK hA n K9 hK9 σ x1 x2 x3 t0 hB (lv_sub hl [1, 2, 3, 4, 0] rfl) hf
  · have hf := it_f hf c1
    refine lv_aload_n hx hb dX8_offs_128 rfl (lv_at hl 1 rfl) ?_
    refine rm_get hx hb hts inM hown hK hB 29 (Nat.le_of_ble_eq_true rfl) qf_203 rfl dX8_offs_129 ?_
    refine lv_bipush (v := 10) hx hb dX8_offs_132 (by decide) ?_
    refine lv_iload_n hx hb dX8_offs_134 rfl (lv_at hl 4 rfl) ?_
    refine lv_imul hx hb dX8_offs_135 ?_
    refine lv_icmp_lt (tgt := 148) hx hb dX8_offs_136 (by decide) (fun c2 => ?_) (fun c2 => ?_)
    · have hf := it_t hf c2
      refine lv_iload_n hx hb dX8_offs_148 rfl (lv_at hl 4 rfl) ?_
      obtain ⟨rfl, rfl⟩ := so_e hf
      exact rm_iret hx hb hr hlocks hK hB dX8_offs_149
    · have hf := it_f hf c2
      refine lv_iload hx hb dX8_offs_139 (lv_at hl 0 rfl) ?_
      refine lv_aload_n hx hb dX8_offs_141 rfl (lv_at hl 1 rfl) ?_
      refine rm_get hx hb hts inM hown hK hB 49 (Nat.le_of_ble_eq_true rfl) qf_285 rfl dX8_offs_142 ?_
      refine lv_icmp_le (tgt := 150) hx hb dX8_offs_145 (by decide) (fun c3 => ?_) (fun c3 => ?_)
      · have hf := it_t hf c3
        exact tbm_offs_150 hc hK hA n K9 hK9 σ x1 x2 x3 t0 hB (lv_sub hl [1, 2, 3, 4, 0] rfl) hf
      · have hf := it_f hf c3
        refine lv_iload_n hx hb dX8_offs_148 rfl (lv_at hl 4 rfl) ?_
        obtain ⟨rfl, rfl⟩ := so_e hf
        exact rm_iret hx hb hr hlocks hK hB dX8_offs_149
def bm_offs_47 (n : Nat) (K9 : MS → Int32 → Int32 → Int32 → Option (Int32 × MS)) (σ : MS) (x1 : Int32) (x2 : Int32) (x3 : Int32) : Option (Int32 × MS) := ck (ib x3 24) (sq ((σ.1 21 (Int32.toNatClampNeg x3)) : Int32) (fun y2 => if (0 ≤ y2) then (bd (fm_toneOf n σ (σ.1 0 25) (σ.1 0 26)) (fun r4 σ5 => if ((10 * x3) ≤ (σ5.1 0 29)) then (ck (ib x3 24) (sq ((σ5.1 21 (Int32.toNatClampNeg x3)) : Int32) (fun y8 => if (r4 ≤ y8) then (ck (ib x3 24) (sq ((σ5.1 21 (Int32.toNatClampNeg x3)) : Int32) (fun y11 => bm_offs_122 n K9 σ5 x1 x2 x3 (y11 - r4)))) else (ck (ib x3 24) (sq ((σ5.1 21 (Int32.toNatClampNeg x3)) : Int32) (fun y13 => bm_offs_122 n K9 σ5 x1 x2 x3 (r4 - y13))))))) else (bm_offs_122 n K9 σ5 x1 x2 x3 99999))) else (sq (x3 + 1 : Int32) (fun y14 => K9 σ x1 x2 y14))))
set_option maxRecDepth 100000 in
set_option maxHeartbeats 4000000 in
theorem tbm_offs_47 {p : Program} {l : Launch} {e : Env} {s : State} {m : MethodId} {args : Array Value} {below : List Frame} {meth : Method} {c : Code} {D : va_G} {A : Nat → Prop} {ad : Nat → Nat} {cy : ClassId} {r0 : Int32} {σ0 : MS} (hc : cxB RX8 wsM cX8_offs 6 (some .int) p s m args meth c) (hK : va_K D vwCl [(cy, .int)] s) (hA : ∀ q, s.heap.size ≤ q → A q) (n : Nat) (K9 : MS → Int32 → Int32 → Int32 → Option (Int32 × MS)) (hK9 : ∀ (σ : MS) (x1 : Int32) (x2 : Int32) (x3 : Int32) (H : Heap) (locs : List Loc) (ls : Array Slot), mB D ad cy A s.heap σ H locs → lv_has ls 6 [(0, .ref (ad 0)), (1, .int x1), (2, .int x2), (3, .int x3)] → K9 σ x1 x2 x3 = some (r0, σ0) → W p l e rm_offs s m args below meth c H locs 0 0 (MQ below (mQi D ad cy A r0 σ0) args s 0 0 A) (F0 m 9 ls [])) (σ : MS) (x1 : Int32) (x2 : Int32) (x3 : Int32) {H : Heap} {locs : List Loc} {ls : Array Slot} (hB : mB D ad cy A s.heap σ H locs) (hl : lv_has ls 6 [(0, .ref (ad 0)), (1, .int x1), (2, .int x2), (3, .int x3)]) (hf : bm_offs_47 n K9 σ x1 x2 x3 = some (r0, σ0)) : W p l e rm_offs s m args below meth c H locs 0 0 (MQ below (mQi D ad cy A r0 σ0) args s 0 0 A) (F0 m 47 ls []) := by
  obtain ⟨hx, hb, hml, hown, hts, hr, hlocks⟩ := id hc
  unfold bm_offs_47 at hf
  refine lv_aload_n hx hb dX8_offs_47 rfl (lv_at hl 0 rfl) ?_
  refine rm_get hx hb hts inM hown hK hB 47 (Nat.le_of_ble_eq_true rfl) qf_74 rfl dX8_offs_48 ?_
  refine lv_iload_n hx hb dX8_offs_51 rfl (lv_at hl 3 rfl) ?_
  obtain ⟨k1, hf⟩ := ck_e hf
  refine rm_ald hx hb hK hB 21 rfl k1 dX8_offs_52 ?_
  refine lv_topi (fun y2 ey2 => ?_)
  have hf := sq_e hf y2 ey2
  refine lv_if_ge (tgt := 59) hx hb dX8_offs_53 (by decide) (fun c3 => ?_) (fun c3 => ?_)
  · have hf := it_t hf c3
    refine lv_aload_n hx hb dX8_offs_59 rfl (lv_at hl 0 rfl) ?_
    refine lv_aload_n hx hb dX8_offs_60 rfl (lv_at hl 0 rfl) ?_
    refine rm_get hx hb hts inM hown hK hB 25 (Nat.le_of_ble_eq_true rfl) qf_184 rfl dX8_offs_61 ?_
    refine lv_aload_n hx hb dX8_offs_64 rfl (lv_at hl 0 rfl) ?_
    refine rm_get hx hb hts inM hown hK hB 26 (Nat.le_of_ble_eq_true rfl) qf_187 rfl dX8_offs_65 ?_
    obtain ⟨r4, σ5, hkr4, hf⟩ := bd_e hf
    refine rm_calliV (av := [.int (σ.1 0 25), .int (σ.1 0 26)]) (rest := []) hx hb hml hown hts hl.1 hK hA hB (cm_toneOf l D ad cy n σ (σ.1 0 25) (σ.1 0 26) hkr4) (kw_toneOf hts ⟨Nat.le_of_ble_eq_true rfl, Nat.le_of_ble_eq_true rfl⟩) rfl rfl (lv_room (Nat.le_of_ble_eq_true rfl)) dX8_offs_68 (Nat.le_refl _) (Nat.le_refl _) (fun H locs hB => ?_)
    refine lv_istore (lv' := [(4, .int r4), (0, .ref (ad 0)), (1, .int x1), (2, .int x2), (3, .int x3)]) hx hb dX8_offs_71 hl (by decide) rfl (fun ls hl => ?_)
    refine lv_aload_n hx hb dX8_offs_73 rfl (lv_at hl 1 rfl) ?_
    refine rm_get hx hb hts inM hown hK hB 29 (Nat.le_of_ble_eq_true rfl) qf_203 rfl dX8_offs_74 ?_
    refine lv_bipush (v := 10) hx hb dX8_offs_77 (by decide) ?_
    refine lv_iload_n hx hb dX8_offs_79 rfl (lv_at hl 4 rfl) ?_
    refine lv_imul hx hb dX8_offs_80 ?_
    refine lv_icmp_ge (tgt := 90) hx hb dX8_offs_81 (by decide) (fun c6 => ?_) (fun c6 => ?_)
    · have hf := it_t hf c6
      refine lv_iload hx hb dX8_offs_90 (lv_at hl 0 rfl) ?_
      refine lv_aload_n hx hb dX8_offs_92 rfl (lv_at hl 1 rfl) ?_
      refine rm_get hx hb hts inM hown hK hB 47 (Nat.le_of_ble_eq_true rfl) qf_74 rfl dX8_offs_93 ?_
      refine lv_iload_n hx hb dX8_offs_96 rfl (lv_at hl 4 rfl) ?_
      obtain ⟨k7, hf⟩ := ck_e hf
      refine rm_ald hx hb hK hB 21 rfl k7 dX8_offs_97 ?_
      refine lv_topi (fun y8 ey8 => ?_)
      have hf := sq_e hf y8 ey8
      refine lv_icmp_le (tgt := 113) hx hb dX8_offs_98 (by decide) (fun c9 => ?_) (fun c9 => ?_)
      · have hf := it_t hf c9
        refine lv_aload_n hx hb dX8_offs_113 rfl (lv_at hl 1 rfl) ?_
        refine rm_get hx hb hts inM hown hK hB 47 (Nat.le_of_ble_eq_true rfl) qf_74 rfl dX8_offs_114 ?_
        refine lv_iload_n hx hb dX8_offs_117 rfl (lv_at hl 4 rfl) ?_
        obtain ⟨k10, hf⟩ := ck_e hf
        refine rm_ald hx hb hK hB 21 rfl k10 dX8_offs_118 ?_
        refine lv_topi (fun y11 ey11 => ?_)
        have hf := sq_e hf y11 ey11
        refine lv_iload hx hb dX8_offs_119 (lv_at hl 0 rfl) ?_
        refine lv_isub hx hb dX8_offs_121 ?_
        exact tbm_offs_122 hc hK hA n K9 hK9 σ5 x1 x2 x3 (y11 - r4) hB (lv_sub hl [1, 2, 3, 4] rfl) hf
      · have hf := it_f hf c9
        refine lv_iload hx hb dX8_offs_101 (lv_at hl 0 rfl) ?_
        refine lv_aload_n hx hb dX8_offs_103 rfl (lv_at hl 1 rfl) ?_
        refine rm_get hx hb hts inM hown hK hB 47 (Nat.le_of_ble_eq_true rfl) qf_74 rfl dX8_offs_104 ?_
        refine lv_iload_n hx hb dX8_offs_107 rfl (lv_at hl 4 rfl) ?_
        obtain ⟨k12, hf⟩ := ck_e hf
        refine rm_ald hx hb hK hB 21 rfl k12 dX8_offs_108 ?_
        refine lv_topi (fun y13 ey13 => ?_)
        have hf := sq_e hf y13 ey13
        refine lv_isub hx hb dX8_offs_109 ?_
        refine lv_goto (tgt := 122) hx hb dX8_offs_110 (by decide) ?_
        exact tbm_offs_122 hc hK hA n K9 hK9 σ5 x1 x2 x3 (r4 - y13) hB (lv_sub hl [1, 2, 3, 4] rfl) hf
    · have hf := it_f hf c6
      refine lv_ldcw (v := 99999) hx hb hown (hts _ qw_186) dX8_offs_84 ?_
      refine lv_goto (tgt := 122) hx hb dX8_offs_87 (by decide) ?_
      exact tbm_offs_122 hc hK hA n K9 hK9 σ5 x1 x2 x3 99999 hB (lv_sub hl [1, 2, 3, 4] rfl) hf
  · have hf := it_f hf c3
    refine lv_goto (tgt := 155) hx hb dX8_offs_56 (by decide) ?_
    obtain ⟨y14, ey14⟩ : ∃ z : Int32, z = x3 + 1 := ⟨_, rfl⟩
    have hf := sq_e hf y14 ey14
    refine lv_iinc (v := y14) (lv' := [(3, .int y14), (0, .ref (ad 0)), (1, .int x1), (2, .int x2)]) hx hb dX8_offs_155 hl (k := 3) rfl (by rw [ey14]; rfl) (by decide) rfl (fun ls hl => ?_)
    refine lv_goto (tgt := 9) hx hb dX8_offs_158 (by decide) ?_
    exact hK9 σ x1 x2 y14 _ _ _ hB (lv_sub hl [1, 2, 3, 0] rfl) hf
def bm_offs_17 (n : Nat) (K9 : MS → Int32 → Int32 → Int32 → Option (Int32 × MS)) (K17 : MS → Int32 → Int32 → Int32 → Option (Int32 × MS)) (σ : MS) (x1 : Int32) (x2 : Int32) (x3 : Int32) : Option (Int32 × MS) := if ((10 * x3) ≤ (σ.1 0 29)) then (bm_offs_47 n K9 σ x1 x2 x3) else (if ((σ.1 0 35) = 0) then (bd (fm_goes n σ 1) (fun r3 σ4 => sq (mp σ4 0 35 r3) (fun σ5 => K17 σ5 x1 x2 x3))) else (bm_offs_47 n K9 σ x1 x2 x3))
set_option maxRecDepth 100000 in
set_option maxHeartbeats 4000000 in
theorem tbm_offs_17 {p : Program} {l : Launch} {e : Env} {s : State} {m : MethodId} {args : Array Value} {below : List Frame} {meth : Method} {c : Code} {D : va_G} {A : Nat → Prop} {ad : Nat → Nat} {cy : ClassId} {r0 : Int32} {σ0 : MS} (hc : cxB RX8 wsM cX8_offs 6 (some .int) p s m args meth c) (hK : va_K D vwCl [(cy, .int)] s) (hA : ∀ q, s.heap.size ≤ q → A q) (n : Nat) (K9 : MS → Int32 → Int32 → Int32 → Option (Int32 × MS)) (hK9 : ∀ (σ : MS) (x1 : Int32) (x2 : Int32) (x3 : Int32) (H : Heap) (locs : List Loc) (ls : Array Slot), mB D ad cy A s.heap σ H locs → lv_has ls 6 [(0, .ref (ad 0)), (1, .int x1), (2, .int x2), (3, .int x3)] → K9 σ x1 x2 x3 = some (r0, σ0) → W p l e rm_offs s m args below meth c H locs 0 0 (MQ below (mQi D ad cy A r0 σ0) args s 0 0 A) (F0 m 9 ls [])) (K17 : MS → Int32 → Int32 → Int32 → Option (Int32 × MS)) (hK17 : ∀ (σ : MS) (x1 : Int32) (x2 : Int32) (x3 : Int32) (H : Heap) (locs : List Loc) (ls : Array Slot), mB D ad cy A s.heap σ H locs → lv_has ls 6 [(0, .ref (ad 0)), (1, .int x1), (2, .int x2), (3, .int x3)] → K17 σ x1 x2 x3 = some (r0, σ0) → W p l e rm_offs s m args below meth c H locs 0 0 (MQ below (mQi D ad cy A r0 σ0) args s 0 0 A) (F0 m 17 ls [])) (σ : MS) (x1 : Int32) (x2 : Int32) (x3 : Int32) {H : Heap} {locs : List Loc} {ls : Array Slot} (hB : mB D ad cy A s.heap σ H locs) (hl : lv_has ls 6 [(0, .ref (ad 0)), (1, .int x1), (2, .int x2), (3, .int x3)]) (hf : bm_offs_17 n K9 K17 σ x1 x2 x3 = some (r0, σ0)) : W p l e rm_offs s m args below meth c H locs 0 0 (MQ below (mQi D ad cy A r0 σ0) args s 0 0 A) (F0 m 17 ls []) := by
  obtain ⟨hx, hb, hml, hown, hts, hr, hlocks⟩ := id hc
  unfold bm_offs_17 at hf
  refine lv_aload_n hx hb dX8_offs_17 rfl (lv_at hl 0 rfl) ?_
  refine rm_get hx hb hts inM hown hK hB 29 (Nat.le_of_ble_eq_true rfl) qf_203 rfl dX8_offs_18 ?_
  refine lv_bipush (v := 10) hx hb dX8_offs_21 (by decide) ?_
  refine lv_iload_n hx hb dX8_offs_23 rfl (lv_at hl 3 rfl) ?_
  refine lv_imul hx hb dX8_offs_24 ?_
  refine lv_icmp_ge (tgt := 47) hx hb dX8_offs_25 (by decide) (fun c1 => ?_) (fun c1 => ?_)
  · have hf := it_t hf c1
    exact tbm_offs_47 hc hK hA n K9 hK9 σ x1 x2 x3 hB (lv_sub hl [0, 1, 2, 3] rfl) hf
  · have hf := it_f hf c1
    refine lv_aload_n hx hb dX8_offs_28 rfl (lv_at hl 0 rfl) ?_
    refine rm_get hx hb hts inM hown hK hB 35 (Nat.le_of_ble_eq_true rfl) qf_225 rfl dX8_offs_29 ?_
    refine lv_if_ne (tgt := 47) hx hb dX8_offs_32 (by decide) (fun c2 => ?_) (fun c2 => ?_)
    · have hf := it_f hf c2
      exact tbm_offs_47 hc hK hA n K9 hK9 σ x1 x2 x3 hB (lv_sub hl [0, 1, 2, 3] rfl) hf
    · have hf := it_t hf c2
      refine lv_aload_n hx hb dX8_offs_35 rfl (lv_at hl 0 rfl) ?_
      refine lv_aload_n hx hb dX8_offs_36 rfl (lv_at hl 0 rfl) ?_
      refine lv_iconst (v := 1) hx hb dX8_offs_37 (by decide) ?_
      obtain ⟨r3, σ4, hkr3, hf⟩ := bd_e hf
      refine rm_calliV (av := [.int 1]) (rest := [.ref (ad 0)]) hx hb hml hown hts hl.1 hK hA hB (cm_goes l D ad cy n σ 1 hkr3) (kw_goes hts ⟨Nat.le_of_ble_eq_true rfl, Nat.le_of_ble_eq_true rfl⟩) rfl rfl (lv_room (Nat.le_of_ble_eq_true rfl)) dX8_offs_38 (Nat.le_refl _) (Nat.le_refl _) (fun H locs hB => ?_)
      refine rm_puti hx hb hts inM hown hK hB 35 (Nat.le_of_ble_eq_true rfl) qf_225 (ms_35 _ _ _) rfl pd_35 rfl rfl dX8_offs_41 (fun σ5 eσ5 H locs hB => ?_)
      have hf := sq_e hf σ5 eσ5
      refine lv_goto (tgt := 17) hx hb dX8_offs_44 (by decide) ?_
      exact hK17 σ5 x1 x2 x3 _ _ _ hB (lv_sub hl [0, 1, 2, 3] rfl) hf
def lm_offs_17 (n : Nat) (K9 : MS → Int32 → Int32 → Int32 → Option (Int32 × MS)) : Nat → MS → Int32 → Int32 → Int32 → Option (Int32 × MS)
  | 0 => fun _ _ _ _ => none
  | k + 1 => bm_offs_17 n K9 (lm_offs_17 n K9 k)
theorem tlm_offs_17 {p : Program} {l : Launch} {e : Env} {s : State} {m : MethodId} {args : Array Value} {below : List Frame} {meth : Method} {c : Code} {D : va_G} {A : Nat → Prop} {ad : Nat → Nat} {cy : ClassId} {r0 : Int32} {σ0 : MS} (hc : cxB RX8 wsM cX8_offs 6 (some .int) p s m args meth c) (hK : va_K D vwCl [(cy, .int)] s) (hA : ∀ q, s.heap.size ≤ q → A q) (n : Nat) (K9 : MS → Int32 → Int32 → Int32 → Option (Int32 × MS)) (hK9 : ∀ (σ : MS) (x1 : Int32) (x2 : Int32) (x3 : Int32) (H : Heap) (locs : List Loc) (ls : Array Slot), mB D ad cy A s.heap σ H locs → lv_has ls 6 [(0, .ref (ad 0)), (1, .int x1), (2, .int x2), (3, .int x3)] → K9 σ x1 x2 x3 = some (r0, σ0) → W p l e rm_offs s m args below meth c H locs 0 0 (MQ below (mQi D ad cy A r0 σ0) args s 0 0 A) (F0 m 9 ls [])) : ∀ (k : Nat) (σ : MS) (x1 : Int32) (x2 : Int32) (x3 : Int32) (H : Heap) (locs : List Loc) (ls : Array Slot), mB D ad cy A s.heap σ H locs → lv_has ls 6 [(0, .ref (ad 0)), (1, .int x1), (2, .int x2), (3, .int x3)] → lm_offs_17 n K9 k σ x1 x2 x3 = some (r0, σ0) → W p l e rm_offs s m args below meth c H locs 0 0 (MQ below (mQi D ad cy A r0 σ0) args s 0 0 A) (F0 m 17 ls []) := by
  intro k
  induction k with
  | zero =>
    intro σ x1 x2 x3 H locs ls hB hl hf
    have hf : (none : Option (Int32 × MS)) = some (r0, σ0) := hf
    cases hf
  | succ k ih =>
    intro σ x1 x2 x3 H locs ls hB hl hf
    exact tbm_offs_17 hc hK hA n K9 hK9 (lm_offs_17 n K9 k) ih σ x1 x2 x3 hB hl hf
def bm_offs_9 (n : Nat) (K9 : MS → Int32 → Int32 → Int32 → Option (Int32 × MS)) (σ : MS) (x1 : Int32) (x2 : Int32) (x3 : Int32) : Option (Int32 × MS) := if ((σ.1 0 48) ≤ x3) then (if (x1 = 0) then (some (x2, σ)) else (some ((-9), σ))) else (lm_offs_17 n K9 n σ x1 x2 x3)
set_option maxRecDepth 100000 in
set_option maxHeartbeats 4000000 in
theorem tbm_offs_9 {p : Program} {l : Launch} {e : Env} {s : State} {m : MethodId} {args : Array Value} {below : List Frame} {meth : Method} {c : Code} {D : va_G} {A : Nat → Prop} {ad : Nat → Nat} {cy : ClassId} {r0 : Int32} {σ0 : MS} (hc : cxB RX8 wsM cX8_offs 6 (some .int) p s m args meth c) (hK : va_K D vwCl [(cy, .int)] s) (hA : ∀ q, s.heap.size ≤ q → A q) (n : Nat) (K9 : MS → Int32 → Int32 → Int32 → Option (Int32 × MS)) (hK9 : ∀ (σ : MS) (x1 : Int32) (x2 : Int32) (x3 : Int32) (H : Heap) (locs : List Loc) (ls : Array Slot), mB D ad cy A s.heap σ H locs → lv_has ls 6 [(0, .ref (ad 0)), (1, .int x1), (2, .int x2), (3, .int x3)] → K9 σ x1 x2 x3 = some (r0, σ0) → W p l e rm_offs s m args below meth c H locs 0 0 (MQ below (mQi D ad cy A r0 σ0) args s 0 0 A) (F0 m 9 ls [])) (σ : MS) (x1 : Int32) (x2 : Int32) (x3 : Int32) {H : Heap} {locs : List Loc} {ls : Array Slot} (hB : mB D ad cy A s.heap σ H locs) (hl : lv_has ls 6 [(0, .ref (ad 0)), (1, .int x1), (2, .int x2), (3, .int x3)]) (hf : bm_offs_9 n K9 σ x1 x2 x3 = some (r0, σ0)) : W p l e rm_offs s m args below meth c H locs 0 0 (MQ below (mQi D ad cy A r0 σ0) args s 0 0 A) (F0 m 9 ls []) := by
  obtain ⟨hx, hb, hml, hown, hts, hr, hlocks⟩ := id hc
  unfold bm_offs_9 at hf
  refine lv_iload_n hx hb dX8_offs_9 rfl (lv_at hl 3 rfl) ?_
  refine lv_aload_n hx hb dX8_offs_10 rfl (lv_at hl 0 rfl) ?_
  refine rm_get hx hb hts inM hown hK hB 48 (Nat.le_of_ble_eq_true rfl) qf_282 rfl dX8_offs_11 ?_
  refine lv_icmp_ge (tgt := 161) hx hb dX8_offs_14 (by decide) (fun c1 => ?_) (fun c1 => ?_)
  · have hf := it_t hf c1
    refine lv_iload_n hx hb dX8_offs_161 rfl (lv_at hl 1 rfl) ?_
    refine lv_if_eq (tgt := 170) hx hb dX8_offs_162 (by decide) (fun c2 => ?_) (fun c2 => ?_)
    · have hf := it_t hf c2
      refine lv_iload_n hx hb dX8_offs_170 rfl (lv_at hl 2 rfl) ?_
      obtain ⟨rfl, rfl⟩ := so_e hf
      exact rm_iret hx hb hr hlocks hK hB dX8_offs_171
    · have hf := it_f hf c2
      refine lv_bipush (v := (-9)) hx hb dX8_offs_165 (by decide) ?_
      refine lv_goto (tgt := 171) hx hb dX8_offs_167 (by decide) ?_
      obtain ⟨rfl, rfl⟩ := so_e hf
      exact rm_iret hx hb hr hlocks hK hB dX8_offs_171
  · have hf := it_f hf c1
    exact tlm_offs_17 hc hK hA n K9 hK9 n σ x1 x2 x3 _ _ _ hB (lv_sub hl [0, 1, 2, 3] rfl) hf
def lm_offs_9 (n : Nat) : Nat → MS → Int32 → Int32 → Int32 → Option (Int32 × MS)
  | 0 => fun _ _ _ _ => none
  | k + 1 => bm_offs_9 n (lm_offs_9 n k)
theorem tlm_offs_9 {p : Program} {l : Launch} {e : Env} {s : State} {m : MethodId} {args : Array Value} {below : List Frame} {meth : Method} {c : Code} {D : va_G} {A : Nat → Prop} {ad : Nat → Nat} {cy : ClassId} {r0 : Int32} {σ0 : MS} (hc : cxB RX8 wsM cX8_offs 6 (some .int) p s m args meth c) (hK : va_K D vwCl [(cy, .int)] s) (hA : ∀ q, s.heap.size ≤ q → A q) (n : Nat) : ∀ (k : Nat) (σ : MS) (x1 : Int32) (x2 : Int32) (x3 : Int32) (H : Heap) (locs : List Loc) (ls : Array Slot), mB D ad cy A s.heap σ H locs → lv_has ls 6 [(0, .ref (ad 0)), (1, .int x1), (2, .int x2), (3, .int x3)] → lm_offs_9 n k σ x1 x2 x3 = some (r0, σ0) → W p l e rm_offs s m args below meth c H locs 0 0 (MQ below (mQi D ad cy A r0 σ0) args s 0 0 A) (F0 m 9 ls []) := by
  intro k
  induction k with
  | zero =>
    intro σ x1 x2 x3 H locs ls hB hl hf
    have hf : (none : Option (Int32 × MS)) = some (r0, σ0) := hf
    cases hf
  | succ k ih =>
    intro σ x1 x2 x3 H locs ls hB hl hf
    exact tbm_offs_9 hc hK hA n (lm_offs_9 n k) ih σ x1 x2 x3 hB hl hf
def fm_offs (n : Nat) (σ : MS) (x1 : Int32) : Option (Int32 × MS) := sq (0 : Int32) (fun y1 => sq (mp σ 0 35 0) (fun σ2 => sq (0 : Int32) (fun y3 => lm_offs_9 n n σ2 x1 y1 y3)))
set_option maxRecDepth 100000 in
set_option maxHeartbeats 4000000 in
theorem tbm_offs_0 {p : Program} {l : Launch} {e : Env} {s : State} {m : MethodId} {args : Array Value} {below : List Frame} {meth : Method} {c : Code} {D : va_G} {A : Nat → Prop} {ad : Nat → Nat} {cy : ClassId} {r0 : Int32} {σ0 : MS} (hc : cxB RX8 wsM cX8_offs 6 (some .int) p s m args meth c) (hK : va_K D vwCl [(cy, .int)] s) (hA : ∀ q, s.heap.size ≤ q → A q) (n : Nat) (σ : MS) (x1 : Int32) {H : Heap} {locs : List Loc} {ls : Array Slot} (hB : mB D ad cy A s.heap σ H locs) (hl : lv_has ls 6 [(0, .ref (ad 0)), (1, .int x1)]) (hf : fm_offs n σ x1 = some (r0, σ0)) : W p l e rm_offs s m args below meth c H locs 0 0 (MQ below (mQi D ad cy A r0 σ0) args s 0 0 A) (F0 m 0 ls []) := by
  obtain ⟨hx, hb, hml, hown, hts, hr, hlocks⟩ := id hc
  unfold fm_offs at hf
  refine lv_iconst (v := 0) hx hb dX8_offs_0 (by decide) ?_
  refine lv_topi (fun y1 ey1 => ?_)
  have hf := sq_e hf y1 ey1
  refine lv_istore_n (lv' := [(2, .int y1), (0, .ref (ad 0)), (1, .int x1)]) hx hb dX8_offs_1 rfl hl (by decide) rfl (fun ls hl => ?_)
  refine lv_aload_n hx hb dX8_offs_2 rfl (lv_at hl 1 rfl) ?_
  refine lv_iconst (v := 0) hx hb dX8_offs_3 (by decide) ?_
  refine rm_puti hx hb hts inM hown hK hB 35 (Nat.le_of_ble_eq_true rfl) qf_225 (ms_35 _ _ _) rfl pd_35 rfl rfl dX8_offs_4 (fun σ2 eσ2 H locs hB => ?_)
  have hf := sq_e hf σ2 eσ2
  refine lv_iconst (v := 0) hx hb dX8_offs_7 (by decide) ?_
  refine lv_topi (fun y3 ey3 => ?_)
  have hf := sq_e hf y3 ey3
  refine lv_istore_n (lv' := [(3, .int y3), (2, .int y1), (0, .ref (ad 0)), (1, .int x1)]) hx hb dX8_offs_8 rfl hl (by decide) rfl (fun ls hl => ?_)
  exact tlm_offs_9 hc hK hA n n σ2 x1 y1 y3 _ _ _ hB (lv_sub hl [2, 3, 1, 0] rfl) hf
theorem cm_offs (l : Launch) (D : va_G) (ad : Nat → Nat) (cy : ClassId) (n : Nat) (σ : MS) (x1 : Int32) {r0 : Int32} {σ0 : MS} (hf : fm_offs n σ x1 = some (r0, σ0)) : mMi l yX8_offs wn_offs rm_offs D ad cy [.ref (ad 0), .int x1] σ r0 σ0 :=
  rm_meti (ret := (some .int)) (by decide) rfl (Nat.le_of_ble_eq_true rfl) (fun p e s m below meth c A ls hc hK hA hB hl => tbm_offs_0 hc hK hA n σ x1 hB hl hf)
theorem kw_offs {R : Room} {s : State} {args : Array Value} (hts : ∀ w ∈ wsM, w.before args s = true) (hR : rm_offs.frames + 1 ≤ R.frames ∧ 8 + (6 + 11) + rm_offs.locals ≤ R.locals) : CallW R s args RX8 RX8 288 yX8_offs cX8_offs 6 (some .int) wn_offs rm_offs 0 0 1 := cwV 1 hts (gM_v qw_190 qw_191 qw_192 qw_37 qw_189) rfl rfl rfl (by decide +kernel) hR
/-! firstOffOf -/
abbrev rm_firstOffOf : Room := { frames := 6, cells := 0, slots := 0, locals := 150 }
abbrev wn_firstOffOf : List Cond := .code yX8_firstOffOf cX8_firstOffOf 2 (some .int) :: wsM
def fm_firstOffOf (n : Nat) (σ : MS) (x1 : Int32) : Option (Int32 × MS) := bd (fm_begins n σ (σ.1 0 39) (σ.1 0 44) (σ.1 0 41) x1) (fun _ σ2 => bd (fm_offs n σ2 1) (fun r3 σ4 => some (r3, σ4)))
set_option maxRecDepth 100000 in
set_option maxHeartbeats 4000000 in
theorem tbm_firstOffOf_0 {p : Program} {l : Launch} {e : Env} {s : State} {m : MethodId} {args : Array Value} {below : List Frame} {meth : Method} {c : Code} {D : va_G} {A : Nat → Prop} {ad : Nat → Nat} {cy : ClassId} {r0 : Int32} {σ0 : MS} (hc : cxB RX8 wsM cX8_firstOffOf 2 (some .int) p s m args meth c) (hK : va_K D vwCl [(cy, .int)] s) (hA : ∀ q, s.heap.size ≤ q → A q) (n : Nat) (σ : MS) (x1 : Int32) {H : Heap} {locs : List Loc} {ls : Array Slot} (hB : mB D ad cy A s.heap σ H locs) (hl : lv_has ls 2 [(0, .ref (ad 0)), (1, .int x1)]) (hf : fm_firstOffOf n σ x1 = some (r0, σ0)) : W p l e rm_firstOffOf s m args below meth c H locs 0 0 (MQ below (mQi D ad cy A r0 σ0) args s 0 0 A) (F0 m 0 ls []) := by
  obtain ⟨hx, hb, hml, hown, hts, hr, hlocks⟩ := id hc
  unfold fm_firstOffOf at hf
  refine lv_aload_n hx hb dX8_firstOffOf_0 rfl (lv_at hl 0 rfl) ?_
  refine lv_aload_n hx hb dX8_firstOffOf_1 rfl (lv_at hl 0 rfl) ?_
  refine rm_get hx hb hts inM hown hK hB 39 (Nat.le_of_ble_eq_true rfl) qf_250 rfl dX8_firstOffOf_2 ?_
  refine lv_aload_n hx hb dX8_firstOffOf_5 rfl (lv_at hl 0 rfl) ?_
  refine rm_get hx hb hts inM hown hK hB 44 (Nat.le_of_ble_eq_true rfl) qf_259 rfl dX8_firstOffOf_6 ?_
  refine lv_aload_n hx hb dX8_firstOffOf_9 rfl (lv_at hl 0 rfl) ?_
  refine rm_get hx hb hts inM hown hK hB 41 (Nat.le_of_ble_eq_true rfl) qf_256 rfl dX8_firstOffOf_10 ?_
  refine lv_iload_n hx hb dX8_firstOffOf_13 rfl (lv_at hl 1 rfl) ?_
  obtain ⟨r1, σ2, hkr1, hf⟩ := bd_e hf
  refine rm_callvV (av := [.int (σ.1 0 39), .int (σ.1 0 44), .int (σ.1 0 41), .int x1]) (rest := []) hx hb hml hown hts hl.1 hK hA hB (cm_begins l D ad cy n σ (σ.1 0 39) (σ.1 0 44) (σ.1 0 41) x1 hkr1) (kw_begins hts ⟨Nat.le_of_ble_eq_true rfl, Nat.le_of_ble_eq_true rfl⟩) rfl rfl (lv_room (Nat.le_of_ble_eq_true rfl)) dX8_firstOffOf_14 (Nat.le_refl _) (Nat.le_refl _) (fun H locs hB => ?_)
  refine lv_aload_n hx hb dX8_firstOffOf_17 rfl (lv_at hl 0 rfl) ?_
  refine lv_iconst (v := 1) hx hb dX8_firstOffOf_18 (by decide) ?_
  obtain ⟨r3, σ4, hkr3, hf⟩ := bd_e hf
  refine rm_calliV (av := [.int 1]) (rest := []) hx hb hml hown hts hl.1 hK hA hB (cm_offs l D ad cy n σ2 1 hkr3) (kw_offs hts ⟨Nat.le_of_ble_eq_true rfl, Nat.le_of_ble_eq_true rfl⟩) rfl rfl (lv_room (Nat.le_of_ble_eq_true rfl)) dX8_firstOffOf_19 (Nat.le_refl _) (Nat.le_refl _) (fun H locs hB => ?_)
  obtain ⟨rfl, rfl⟩ := so_e hf
  exact rm_iret hx hb hr hlocks hK hB dX8_firstOffOf_22
theorem cm_firstOffOf (l : Launch) (D : va_G) (ad : Nat → Nat) (cy : ClassId) (n : Nat) (σ : MS) (x1 : Int32) {r0 : Int32} {σ0 : MS} (hf : fm_firstOffOf n σ x1 = some (r0, σ0)) : mMi l yX8_firstOffOf wn_firstOffOf rm_firstOffOf D ad cy [.ref (ad 0), .int x1] σ r0 σ0 :=
  rm_meti (ret := (some .int)) (by decide) rfl (Nat.le_of_ble_eq_true rfl) (fun p e s m below meth c A ls hc hK hA hB hl => tbm_firstOffOf_0 hc hK hA n σ x1 hB hl hf)
theorem kw_firstOffOf {R : Room} {s : State} {args : Array Value} (hts : ∀ w ∈ wsM, w.before args s = true) (hR : rm_firstOffOf.frames + 1 ≤ R.frames ∧ 8 + (2 + 11) + rm_firstOffOf.locals ≤ R.locals) : CallW R s args RX8 RX8 295 yX8_firstOffOf cX8_firstOffOf 2 (some .int) wn_firstOffOf rm_firstOffOf 0 0 1 := cwV 1 hts (gM_v qw_198 qw_199 qw_200 qw_37 qw_193) rfl rfl rfl (by decide +kernel) hR
/-! isSet -/
abbrev rm_isSet : Room := { frames := 1, cells := 0, slots := 0, locals := 20 }
abbrev wn_isSet : List Cond := .code yX8_isSet cX8_isSet 2 (some .boolean) :: wsM
def fm_isSet (n : Nat) (σ : MS) (x1 : Int32) : Option (Int32 × MS) := if (x1 < 0) then (some (0, σ)) else (bd (fm_all n σ) (fun r2 σ3 => if (r2 < x1) then (some (0, σ3)) else (some (1, σ3))))
set_option maxRecDepth 100000 in
set_option maxHeartbeats 4000000 in
theorem tbm_isSet_0 {p : Program} {l : Launch} {e : Env} {s : State} {m : MethodId} {args : Array Value} {below : List Frame} {meth : Method} {c : Code} {D : va_G} {A : Nat → Prop} {ad : Nat → Nat} {cy : ClassId} {r0 : Int32} {σ0 : MS} (hc : cxB RX8 wsM cX8_isSet 2 (some .boolean) p s m args meth c) (hK : va_K D vwCl [(cy, .int)] s) (hA : ∀ q, s.heap.size ≤ q → A q) (n : Nat) (σ : MS) (x1 : Int32) {H : Heap} {locs : List Loc} {ls : Array Slot} (hB : mB D ad cy A s.heap σ H locs) (hl : lv_has ls 2 [(0, .ref (ad 0)), (1, .int x1)]) (hf : fm_isSet n σ x1 = some (r0, σ0)) : W p l e rm_isSet s m args below meth c H locs 0 0 (MQ below (mQi D ad cy A r0 σ0) args s 0 0 A) (F0 m 0 ls []) := by
  obtain ⟨hx, hb, hml, hown, hts, hr, hlocks⟩ := id hc
  unfold fm_isSet at hf
  refine lv_iload_n hx hb dX8_isSet_0 rfl (lv_at hl 1 rfl) ?_
  refine lv_if_lt (tgt := 16) hx hb dX8_isSet_1 (by decide) (fun c1 => ?_) (fun c1 => ?_)
  · have hf := it_t hf c1
    refine lv_iconst (v := 0) hx hb dX8_isSet_16 (by decide) ?_
    obtain ⟨rfl, rfl⟩ := so_e hf
    exact rm_zret hx hb hr hlocks rfl hK hB dX8_isSet_17
  · have hf := it_f hf c1
    refine lv_iload_n hx hb dX8_isSet_4 rfl (lv_at hl 1 rfl) ?_
    refine lv_aload_n hx hb dX8_isSet_5 rfl (lv_at hl 0 rfl) ?_
    obtain ⟨r2, σ3, hkr2, hf⟩ := bd_e hf
    refine rm_calliV (av := []) (rest := [.int x1]) hx hb hml hown hts hl.1 hK hA hB (cm_all l D ad cy n σ hkr2) (kw_all hts ⟨Nat.le_of_ble_eq_true rfl, Nat.le_of_ble_eq_true rfl⟩) rfl rfl (lv_room (Nat.le_of_ble_eq_true rfl)) dX8_isSet_6 (Nat.le_refl _) (Nat.le_refl _) (fun H locs hB => ?_)
    refine lv_icmp_gt (tgt := 16) hx hb dX8_isSet_9 (by decide) (fun c4 => ?_) (fun c4 => ?_)
    · have hf := it_t hf c4
      refine lv_iconst (v := 0) hx hb dX8_isSet_16 (by decide) ?_
      obtain ⟨rfl, rfl⟩ := so_e hf
      exact rm_zret hx hb hr hlocks rfl hK hB dX8_isSet_17
    · have hf := it_f hf c4
      refine lv_iconst (v := 1) hx hb dX8_isSet_12 (by decide) ?_
      refine lv_goto (tgt := 17) hx hb dX8_isSet_13 (by decide) ?_
      obtain ⟨rfl, rfl⟩ := so_e hf
      exact rm_zret hx hb hr hlocks rfl hK hB dX8_isSet_17
theorem cm_isSet (l : Launch) (D : va_G) (ad : Nat → Nat) (cy : ClassId) (n : Nat) (σ : MS) (x1 : Int32) {r0 : Int32} {σ0 : MS} (hf : fm_isSet n σ x1 = some (r0, σ0)) : mMi l yX8_isSet wn_isSet rm_isSet D ad cy [.ref (ad 0), .int x1] σ r0 σ0 :=
  rm_meti (ret := (some .boolean)) (by decide) rfl (Nat.le_of_ble_eq_true rfl) (fun p e s m below meth c A ls hc hK hA hB hl => tbm_isSet_0 hc hK hA n σ x1 hB hl hf)
theorem kw_isSet {R : Room} {s : State} {args : Array Value} (hts : ∀ w ∈ wsM, w.before args s = true) (hR : rm_isSet.frames + 1 ≤ R.frames ∧ 8 + (2 + 11) + rm_isSet.locals ≤ R.locals) : CallW R s args RX8 RX8 292 yX8_isSet cX8_isSet 2 (some .boolean) wn_isSet rm_isSet 0 0 1 := cwV 1 hts (gM_v qw_195 qw_196 qw_197 qw_37 qw_194) rfl rfl rfl (by decide +kernel) hR
/-! firstOff -/
abbrev rm_firstOff : Room := { frames := 7, cells := 0, slots := 0, locals := 171 }
abbrev wn_firstOff : List Cond := .code yX8_firstOff cX8_firstOff 2 (some .int) :: wsM
def fm_firstOff (n : Nat) (σ : MS) (x1 : Int32) : Option (Int32 × MS) := bd (fm_isSet n σ x1) (fun r1 σ2 => if (r1 = 0) then (bd (fm_no n σ2 (-1)) (fun r9 σ10 => some (r9, σ10))) else (if ((σ2.1 0 38) = 0) then (bd (fm_no n σ2 (-3)) (fun r7 σ8 => some (r7, σ8))) else (bd (fm_firstOffOf n σ2 x1) (fun r5 σ6 => some (r5, σ6)))))
set_option maxRecDepth 100000 in
set_option maxHeartbeats 4000000 in
theorem tbm_firstOff_0 {p : Program} {l : Launch} {e : Env} {s : State} {m : MethodId} {args : Array Value} {below : List Frame} {meth : Method} {c : Code} {D : va_G} {A : Nat → Prop} {ad : Nat → Nat} {cy : ClassId} {r0 : Int32} {σ0 : MS} (hc : cxB RX8 wsM cX8_firstOff 2 (some .int) p s m args meth c) (hK : va_K D vwCl [(cy, .int)] s) (hA : ∀ q, s.heap.size ≤ q → A q) (n : Nat) (σ : MS) (x1 : Int32) {H : Heap} {locs : List Loc} {ls : Array Slot} (hB : mB D ad cy A s.heap σ H locs) (hl : lv_has ls 2 [(0, .ref (ad 0)), (1, .int x1)]) (hf : fm_firstOff n σ x1 = some (r0, σ0)) : W p l e rm_firstOff s m args below meth c H locs 0 0 (MQ below (mQi D ad cy A r0 σ0) args s 0 0 A) (F0 m 0 ls []) := by
  obtain ⟨hx, hb, hml, hown, hts, hr, hlocks⟩ := id hc
  unfold fm_firstOff at hf
  refine lv_aload_n hx hb dX8_firstOff_0 rfl (lv_at hl 0 rfl) ?_
  refine lv_iload_n hx hb dX8_firstOff_1 rfl (lv_at hl 1 rfl) ?_
  obtain ⟨r1, σ2, hkr1, hf⟩ := bd_e hf
  refine rm_calliV (av := [.int x1]) (rest := []) hx hb hml hown hts hl.1 hK hA hB (cm_isSet l D ad cy n σ x1 hkr1) (kw_isSet hts ⟨Nat.le_of_ble_eq_true rfl, Nat.le_of_ble_eq_true rfl⟩) rfl rfl (lv_room (Nat.le_of_ble_eq_true rfl)) dX8_firstOff_2 (Nat.le_refl _) (Nat.le_refl _) (fun H locs hB => ?_)
  refine lv_if_ne (tgt := 14) hx hb dX8_firstOff_5 (by decide) (fun c3 => ?_) (fun c3 => ?_)
  · have hf := it_f hf c3
    refine lv_aload_n hx hb dX8_firstOff_14 rfl (lv_at hl 0 rfl) ?_
    refine rm_get hx hb hts inM hown hK hB 38 (Nat.le_of_ble_eq_true rfl) qf_253 rfl dX8_firstOff_15 ?_
    refine lv_if_ne (tgt := 30) hx hb dX8_firstOff_18 (by decide) (fun c4 => ?_) (fun c4 => ?_)
    · have hf := it_f hf c4
      refine lv_aload_n hx hb dX8_firstOff_30 rfl (lv_at hl 0 rfl) ?_
      refine lv_iload_n hx hb dX8_firstOff_31 rfl (lv_at hl 1 rfl) ?_
      obtain ⟨r5, σ6, hkr5, hf⟩ := bd_e hf
      refine rm_calliV (av := [.int x1]) (rest := []) hx hb hml hown hts hl.1 hK hA hB (cm_firstOffOf l D ad cy n σ2 x1 hkr5) (kw_firstOffOf hts ⟨Nat.le_of_ble_eq_true rfl, Nat.le_of_ble_eq_true rfl⟩) rfl rfl (lv_room (Nat.le_of_ble_eq_true rfl)) dX8_firstOff_32 (Nat.le_refl _) (Nat.le_refl _) (fun H locs hB => ?_)
      obtain ⟨rfl, rfl⟩ := so_e hf
      exact rm_iret hx hb hr hlocks hK hB dX8_firstOff_35
    · have hf := it_t hf c4
      refine lv_aload_n hx hb dX8_firstOff_21 rfl (lv_at hl 0 rfl) ?_
      refine lv_bipush (v := (-3)) hx hb dX8_firstOff_22 (by decide) ?_
      obtain ⟨r7, σ8, hkr7, hf⟩ := bd_e hf
      refine rm_calliV (av := [.int (-3)]) (rest := []) hx hb hml hown hts hl.1 hK hA hB (cm_no l D ad cy n σ2 (-3) hkr7) (kw_no hts ⟨Nat.le_of_ble_eq_true rfl, Nat.le_of_ble_eq_true rfl⟩) rfl rfl (lv_room (Nat.le_of_ble_eq_true rfl)) dX8_firstOff_24 (Nat.le_refl _) (Nat.le_refl _) (fun H locs hB => ?_)
      refine lv_goto (tgt := 35) hx hb dX8_firstOff_27 (by decide) ?_
      obtain ⟨rfl, rfl⟩ := so_e hf
      exact rm_iret hx hb hr hlocks hK hB dX8_firstOff_35
  · have hf := it_t hf c3
    refine lv_aload_n hx hb dX8_firstOff_8 rfl (lv_at hl 0 rfl) ?_
    refine lv_iconst (v := (-1)) hx hb dX8_firstOff_9 (by decide) ?_
    obtain ⟨r9, σ10, hkr9, hf⟩ := bd_e hf
    refine rm_calliV (av := [.int (-1)]) (rest := []) hx hb hml hown hts hl.1 hK hA hB (cm_no l D ad cy n σ2 (-1) hkr9) (kw_no hts ⟨Nat.le_of_ble_eq_true rfl, Nat.le_of_ble_eq_true rfl⟩) rfl rfl (lv_room (Nat.le_of_ble_eq_true rfl)) dX8_firstOff_10 (Nat.le_refl _) (Nat.le_refl _) (fun H locs hB => ?_)
    obtain ⟨rfl, rfl⟩ := so_e hf
    exact rm_iret hx hb hr hlocks hK hB dX8_firstOff_13
theorem cm_firstOff (l : Launch) (D : va_G) (ad : Nat → Nat) (cy : ClassId) (n : Nat) (σ : MS) (x1 : Int32) {r0 : Int32} {σ0 : MS} (hf : fm_firstOff n σ x1 = some (r0, σ0)) : mMi l yX8_firstOff wn_firstOff rm_firstOff D ad cy [.ref (ad 0), .int x1] σ r0 σ0 :=
  rm_meti (ret := (some .int)) (by decide) rfl (Nat.le_of_ble_eq_true rfl) (fun p e s m below meth c A ls hc hK hA hB hl => tbm_firstOff_0 hc hK hA n σ x1 hB hl hf)
/-! bits -/
abbrev rm_bits : Room := { frames := 0, cells := 0, slots := 0, locals := 0 }
abbrev wn_bits : List Cond := .code yX8_bits cX8_bits 3 (some .int) :: wsM
def bm_bits_4 (n : Nat) (K4 : MS → Int32 → Int32 → Int32 → Option (Int32 × MS)) (σ : MS) (x0 : Int32) (x1 : Int32) (x2 : Int32) : Option (Int32 × MS) := if (31 ≤ x2) then (some (x1, σ)) else (sq ((x1 + ((x0 >>> (x2 &&& 31)) &&& 1)) : Int32) (fun y2 => sq (x2 + 1 : Int32) (fun y3 => K4 σ x0 y2 y3)))
set_option maxRecDepth 100000 in
set_option maxHeartbeats 4000000 in
theorem tbm_bits_4 {p : Program} {l : Launch} {e : Env} {s : State} {m : MethodId} {args : Array Value} {below : List Frame} {meth : Method} {c : Code} {D : va_G} {A : Nat → Prop} {ad : Nat → Nat} {cy : ClassId} {r0 : Int32} {σ0 : MS} (hc : cxB RX8 wsM cX8_bits 3 (some .int) p s m args meth c) (hK : va_K D vwCl [(cy, .int)] s) (hA : ∀ q, s.heap.size ≤ q → A q) (n : Nat) (K4 : MS → Int32 → Int32 → Int32 → Option (Int32 × MS)) (hK4 : ∀ (σ : MS) (x0 : Int32) (x1 : Int32) (x2 : Int32) (H : Heap) (locs : List Loc) (ls : Array Slot), mB D ad cy A s.heap σ H locs → lv_has ls 3 [(0, .int x0), (1, .int x1), (2, .int x2)] → K4 σ x0 x1 x2 = some (r0, σ0) → W p l e rm_bits s m args below meth c H locs 0 0 (MQ below (mQi D ad cy A r0 σ0) args s 0 0 A) (F0 m 4 ls [])) (σ : MS) (x0 : Int32) (x1 : Int32) (x2 : Int32) {H : Heap} {locs : List Loc} {ls : Array Slot} (hB : mB D ad cy A s.heap σ H locs) (hl : lv_has ls 3 [(0, .int x0), (1, .int x1), (2, .int x2)]) (hf : bm_bits_4 n K4 σ x0 x1 x2 = some (r0, σ0)) : W p l e rm_bits s m args below meth c H locs 0 0 (MQ below (mQi D ad cy A r0 σ0) args s 0 0 A) (F0 m 4 ls []) := by
  obtain ⟨hx, hb, hml, hown, hts, hr, hlocks⟩ := id hc
  unfold bm_bits_4 at hf
  refine lv_iload_n hx hb dX8_bits_4 rfl (lv_at hl 2 rfl) ?_
  refine lv_bipush (v := 31) hx hb dX8_bits_5 (by decide) ?_
  refine lv_icmp_ge (tgt := 24) hx hb dX8_bits_7 (by decide) (fun c1 => ?_) (fun c1 => ?_)
  · have hf := it_t hf c1
    refine lv_iload_n hx hb dX8_bits_24 rfl (lv_at hl 1 rfl) ?_
    obtain ⟨rfl, rfl⟩ := so_e hf
    exact rm_iret hx hb hr hlocks hK hB dX8_bits_25
  · have hf := it_f hf c1
    refine lv_iload_n hx hb dX8_bits_10 rfl (lv_at hl 1 rfl) ?_
    refine lv_iload_n hx hb dX8_bits_11 rfl (lv_at hl 0 rfl) ?_
    refine lv_iload_n hx hb dX8_bits_12 rfl (lv_at hl 2 rfl) ?_
    refine lv_ishr hx hb dX8_bits_13 ?_
    refine lv_iconst (v := 1) hx hb dX8_bits_14 (by decide) ?_
    refine lv_iand hx hb dX8_bits_15 ?_
    refine lv_iadd hx hb dX8_bits_16 ?_
    refine lv_topi (fun y2 ey2 => ?_)
    have hf := sq_e hf y2 ey2
    refine lv_istore_n (lv' := [(1, .int y2), (0, .int x0), (2, .int x2)]) hx hb dX8_bits_17 rfl hl (by decide) rfl (fun ls hl => ?_)
    obtain ⟨y3, ey3⟩ : ∃ z : Int32, z = x2 + 1 := ⟨_, rfl⟩
    have hf := sq_e hf y3 ey3
    refine lv_iinc (v := y3) (lv' := [(2, .int y3), (1, .int y2), (0, .int x0)]) hx hb dX8_bits_18 hl (k := 2) rfl (by rw [ey3]; rfl) (by decide) rfl (fun ls hl => ?_)
    refine lv_goto (tgt := 4) hx hb dX8_bits_21 (by decide) ?_
    exact hK4 σ x0 y2 y3 _ _ _ hB (lv_sub hl [2, 1, 0] rfl) hf
def lm_bits_4 (n : Nat) : Nat → MS → Int32 → Int32 → Int32 → Option (Int32 × MS)
  | 0 => fun _ _ _ _ => none
  | k + 1 => bm_bits_4 n (lm_bits_4 n k)
theorem tlm_bits_4 {p : Program} {l : Launch} {e : Env} {s : State} {m : MethodId} {args : Array Value} {below : List Frame} {meth : Method} {c : Code} {D : va_G} {A : Nat → Prop} {ad : Nat → Nat} {cy : ClassId} {r0 : Int32} {σ0 : MS} (hc : cxB RX8 wsM cX8_bits 3 (some .int) p s m args meth c) (hK : va_K D vwCl [(cy, .int)] s) (hA : ∀ q, s.heap.size ≤ q → A q) (n : Nat) : ∀ (k : Nat) (σ : MS) (x0 : Int32) (x1 : Int32) (x2 : Int32) (H : Heap) (locs : List Loc) (ls : Array Slot), mB D ad cy A s.heap σ H locs → lv_has ls 3 [(0, .int x0), (1, .int x1), (2, .int x2)] → lm_bits_4 n k σ x0 x1 x2 = some (r0, σ0) → W p l e rm_bits s m args below meth c H locs 0 0 (MQ below (mQi D ad cy A r0 σ0) args s 0 0 A) (F0 m 4 ls []) := by
  intro k
  induction k with
  | zero =>
    intro σ x0 x1 x2 H locs ls hB hl hf
    have hf : (none : Option (Int32 × MS)) = some (r0, σ0) := hf
    cases hf
  | succ k ih =>
    intro σ x0 x1 x2 H locs ls hB hl hf
    exact tbm_bits_4 hc hK hA n (lm_bits_4 n k) ih σ x0 x1 x2 hB hl hf
def fm_bits (n : Nat) (σ : MS) (x0 : Int32) : Option (Int32 × MS) := sq (0 : Int32) (fun y1 => sq (0 : Int32) (fun y2 => lm_bits_4 n n σ x0 y1 y2))
set_option maxRecDepth 100000 in
set_option maxHeartbeats 4000000 in
theorem tbm_bits_0 {p : Program} {l : Launch} {e : Env} {s : State} {m : MethodId} {args : Array Value} {below : List Frame} {meth : Method} {c : Code} {D : va_G} {A : Nat → Prop} {ad : Nat → Nat} {cy : ClassId} {r0 : Int32} {σ0 : MS} (hc : cxB RX8 wsM cX8_bits 3 (some .int) p s m args meth c) (hK : va_K D vwCl [(cy, .int)] s) (hA : ∀ q, s.heap.size ≤ q → A q) (n : Nat) (σ : MS) (x0 : Int32) {H : Heap} {locs : List Loc} {ls : Array Slot} (hB : mB D ad cy A s.heap σ H locs) (hl : lv_has ls 3 [(0, .int x0)]) (hf : fm_bits n σ x0 = some (r0, σ0)) : W p l e rm_bits s m args below meth c H locs 0 0 (MQ below (mQi D ad cy A r0 σ0) args s 0 0 A) (F0 m 0 ls []) := by
  obtain ⟨hx, hb, hml, hown, hts, hr, hlocks⟩ := id hc
  unfold fm_bits at hf
  refine lv_iconst (v := 0) hx hb dX8_bits_0 (by decide) ?_
  refine lv_topi (fun y1 ey1 => ?_)
  have hf := sq_e hf y1 ey1
  refine lv_istore_n (lv' := [(1, .int y1), (0, .int x0)]) hx hb dX8_bits_1 rfl hl (by decide) rfl (fun ls hl => ?_)
  refine lv_iconst (v := 0) hx hb dX8_bits_2 (by decide) ?_
  refine lv_topi (fun y2 ey2 => ?_)
  have hf := sq_e hf y2 ey2
  refine lv_istore_n (lv' := [(2, .int y2), (1, .int y1), (0, .int x0)]) hx hb dX8_bits_3 rfl hl (by decide) rfl (fun ls hl => ?_)
  exact tlm_bits_4 hc hK hA n n σ x0 y1 y2 _ _ _ hB (lv_sub hl [2, 1, 0] rfl) hf
theorem cm_bits (l : Launch) (D : va_G) (ad : Nat → Nat) (cy : ClassId) (n : Nat) (σ : MS) (x0 : Int32) {r0 : Int32} {σ0 : MS} (hf : fm_bits n σ x0 = some (r0, σ0)) : mMi l yX8_bits wn_bits rm_bits D ad cy [.int x0] σ r0 σ0 :=
  rm_meti (ret := (some .int)) (by decide) rfl (Nat.le_of_ble_eq_true rfl) (fun p e s m below meth c A ls hc hK hA hB hl => tbm_bits_0 hc hK hA n σ x0 hB hl hf)
theorem kw_bits {R : Room} {s : State} {args : Array Value} (hts : ∀ w ∈ wsM, w.before args s = true) (hR : rm_bits.frames + 1 ≤ R.frames ∧ 8 + (3 + 11) + rm_bits.locals ≤ R.locals) : CallB R s args RX8 298 yX8_bits cX8_bits 3 (some .int) wn_bits rm_bits 0 0 1 ∧ (Cond.static yX8_bits).before args s = true := va_cwS 1 hts (gM_s qw_202 qw_203 qw_37 qw_201) rfl rfl rfl (by decide +kernel) hR
/-! supposed -/
abbrev rm_supposed : Room := { frames := 7, cells := 0, slots := 0, locals := 171 }
abbrev wn_supposed : List Cond := .code yX8_supposed cX8_supposed 5 (some .int) :: wsM
def bm_supposed_38 (n : Nat) (K38 : MS → Int32 → Int32 → Int32 → Int32 → Option (Int32 × MS)) (σ : MS) (x1 : Int32) (x2 : Int32) (x3 : Int32) (x4 : Int32) : Option (Int32 × MS) := bd (fm_all n σ) (fun r1 σ2 => if (r1 < x4) then (if (x1 = 0) then (some (x2, σ2)) else (some (x3, σ2))) else (bd (fm_firstOffOf n σ2 x4) (fun r5 σ6 => if (r5 = (-9)) then (sq (x2 + 1 : Int32) (fun y8 => if (x3 < 0) then (sq (x4 + 1 : Int32) (fun y10 => K38 σ6 x1 y8 x4 y10)) else (bd (fm_bits n σ6 x4) (fun r11 σ12 => bd (fm_bits n σ12 x3) (fun r13 σ14 => if (r13 ≤ r11) then (sq (x4 + 1 : Int32) (fun y16 => K38 σ14 x1 y8 x3 y16)) else (sq (x4 + 1 : Int32) (fun y17 => K38 σ14 x1 y8 x4 y17))))))) else (sq (x4 + 1 : Int32) (fun y18 => K38 σ6 x1 x2 x3 y18)))))
set_option maxRecDepth 100000 in
set_option maxHeartbeats 4000000 in
theorem tbm_supposed_38 {p : Program} {l : Launch} {e : Env} {s : State} {m : MethodId} {args : Array Value} {below : List Frame} {meth : Method} {c : Code} {D : va_G} {A : Nat → Prop} {ad : Nat → Nat} {cy : ClassId} {r0 : Int32} {σ0 : MS} (hc : cxB RX8 wsM cX8_supposed 5 (some .int) p s m args meth c) (hK : va_K D vwCl [(cy, .int)] s) (hA : ∀ q, s.heap.size ≤ q → A q) (n : Nat) (K38 : MS → Int32 → Int32 → Int32 → Int32 → Option (Int32 × MS)) (hK38 : ∀ (σ : MS) (x1 : Int32) (x2 : Int32) (x3 : Int32) (x4 : Int32) (H : Heap) (locs : List Loc) (ls : Array Slot), mB D ad cy A s.heap σ H locs → lv_has ls 5 [(0, .ref (ad 0)), (1, .int x1), (2, .int x2), (3, .int x3), (4, .int x4)] → K38 σ x1 x2 x3 x4 = some (r0, σ0) → W p l e rm_supposed s m args below meth c H locs 0 0 (MQ below (mQi D ad cy A r0 σ0) args s 0 0 A) (F0 m 38 ls [])) (σ : MS) (x1 : Int32) (x2 : Int32) (x3 : Int32) (x4 : Int32) {H : Heap} {locs : List Loc} {ls : Array Slot} (hB : mB D ad cy A s.heap σ H locs) (hl : lv_has ls 5 [(0, .ref (ad 0)), (1, .int x1), (2, .int x2), (3, .int x3), (4, .int x4)]) (hf : bm_supposed_38 n K38 σ x1 x2 x3 x4 = some (r0, σ0)) : W p l e rm_supposed s m args below meth c H locs 0 0 (MQ below (mQi D ad cy A r0 σ0) args s 0 0 A) (F0 m 38 ls []) := by
  obtain ⟨hx, hb, hml, hown, hts, hr, hlocks⟩ := id hc
  unfold bm_supposed_38 at hf
  refine lv_iload hx hb dX8_supposed_38 (lv_at hl 4 rfl) ?_
  refine lv_aload_n hx hb dX8_supposed_40 rfl (lv_at hl 0 rfl) ?_
  obtain ⟨r1, σ2, hkr1, hf⟩ := bd_e hf
  refine rm_calliV (av := []) (rest := [.int x4]) hx hb hml hown hts hl.1 hK hA hB (cm_all l D ad cy n σ hkr1) (kw_all hts ⟨Nat.le_of_ble_eq_true rfl, Nat.le_of_ble_eq_true rfl⟩) rfl rfl (lv_room (Nat.le_of_ble_eq_true rfl)) dX8_supposed_41 (Nat.le_refl _) (Nat.le_refl _) (fun H locs hB => ?_)
  refine lv_icmp_gt (tgt := 89) hx hb dX8_supposed_44 (by decide) (fun c3 => ?_) (fun c3 => ?_)
  · have hf := it_t hf c3
    refine lv_iload_n hx hb dX8_supposed_89 rfl (lv_at hl 1 rfl) ?_
    refine lv_if_ne (tgt := 97) hx hb dX8_supposed_90 (by decide) (fun c4 => ?_) (fun c4 => ?_)
    · have hf := it_f hf c4
      refine lv_iload_n hx hb dX8_supposed_97 rfl (lv_at hl 3 rfl) ?_
      obtain ⟨rfl, rfl⟩ := so_e hf
      exact rm_iret hx hb hr hlocks hK hB dX8_supposed_98
    · have hf := it_t hf c4
      refine lv_iload_n hx hb dX8_supposed_93 rfl (lv_at hl 2 rfl) ?_
      refine lv_goto (tgt := 98) hx hb dX8_supposed_94 (by decide) ?_
      obtain ⟨rfl, rfl⟩ := so_e hf
      exact rm_iret hx hb hr hlocks hK hB dX8_supposed_98
  · have hf := it_f hf c3
    refine lv_aload_n hx hb dX8_supposed_47 rfl (lv_at hl 0 rfl) ?_
    refine lv_iload hx hb dX8_supposed_48 (lv_at hl 4 rfl) ?_
    obtain ⟨r5, σ6, hkr5, hf⟩ := bd_e hf
    refine rm_calliV (av := [.int x4]) (rest := []) hx hb hml hown hts hl.1 hK hA hB (cm_firstOffOf l D ad cy n σ2 x4 hkr5) (kw_firstOffOf hts ⟨Nat.le_of_ble_eq_true rfl, Nat.le_of_ble_eq_true rfl⟩) rfl rfl (lv_room (Nat.le_of_ble_eq_true rfl)) dX8_supposed_50 (Nat.le_refl _) (Nat.le_refl _) (fun H locs hB => ?_)
    refine lv_bipush (v := (-9)) hx hb dX8_supposed_53 (by decide) ?_
    refine lv_icmp_eq (tgt := 61) hx hb dX8_supposed_55 (by decide) (fun c7 => ?_) (fun c7 => ?_)
    · have hf := it_t hf c7
      obtain ⟨y8, ey8⟩ : ∃ z : Int32, z = x2 + 1 := ⟨_, rfl⟩
      have hf := sq_e hf y8 ey8
      refine lv_iinc (v := y8) (lv' := [(2, .int y8), (0, .ref (ad 0)), (1, .int x1), (3, .int x3), (4, .int x4)]) hx hb dX8_supposed_61 hl (k := 2) rfl (by rw [ey8]; rfl) (by decide) rfl (fun ls hl => ?_)
      refine lv_iload_n hx hb dX8_supposed_64 rfl (lv_at hl 3 rfl) ?_
      refine lv_if_lt (tgt := 80) hx hb dX8_supposed_65 (by decide) (fun c9 => ?_) (fun c9 => ?_)
      · have hf := it_t hf c9
        refine lv_iload hx hb dX8_supposed_80 (lv_at hl 4 rfl) ?_
        refine lv_istore_n (lv' := [(3, .int x4), (2, .int y8), (0, .ref (ad 0)), (1, .int x1), (4, .int x4)]) hx hb dX8_supposed_82 rfl hl (by decide) rfl (fun ls hl => ?_)
        obtain ⟨y10, ey10⟩ : ∃ z : Int32, z = x4 + 1 := ⟨_, rfl⟩
        have hf := sq_e hf y10 ey10
        refine lv_iinc (v := y10) (lv' := [(4, .int y10), (3, .int x4), (2, .int y8), (0, .ref (ad 0)), (1, .int x1)]) hx hb dX8_supposed_83 hl (k := 4) rfl (by rw [ey10]; rfl) (by decide) rfl (fun ls hl => ?_)
        refine lv_goto (tgt := 38) hx hb dX8_supposed_86 (by decide) ?_
        exact hK38 σ6 x1 y8 x4 y10 _ _ _ hB (lv_sub hl [3, 4, 2, 1, 0] rfl) hf
      · have hf := it_f hf c9
        refine lv_iload hx hb dX8_supposed_68 (lv_at hl 4 rfl) ?_
        obtain ⟨r11, σ12, hkr11, hf⟩ := bd_e hf
        refine rm_calliS (av := [.int x4]) (rest := []) hx hb hml hown hts hl.1 hK hA hB (cm_bits l D ad cy n σ6 x4 hkr11) (kw_bits hts ⟨Nat.le_of_ble_eq_true rfl, Nat.le_of_ble_eq_true rfl⟩) rfl rfl (lv_room (Nat.le_of_ble_eq_true rfl)) dX8_supposed_70 (Nat.le_refl _) (Nat.le_refl _) (fun H locs hB => ?_)
        refine lv_iload_n hx hb dX8_supposed_73 rfl (lv_at hl 3 rfl) ?_
        obtain ⟨r13, σ14, hkr13, hf⟩ := bd_e hf
        refine rm_calliS (av := [.int x3]) (rest := [.int r11]) hx hb hml hown hts hl.1 hK hA hB (cm_bits l D ad cy n σ12 x3 hkr13) (kw_bits hts ⟨Nat.le_of_ble_eq_true rfl, Nat.le_of_ble_eq_true rfl⟩) rfl rfl (lv_room (Nat.le_of_ble_eq_true rfl)) dX8_supposed_74 (Nat.le_refl _) (Nat.le_refl _) (fun H locs hB => ?_)
        refine lv_icmp_ge (tgt := 83) hx hb dX8_supposed_77 (by decide) (fun c15 => ?_) (fun c15 => ?_)
        · have hf := it_t hf c15
          obtain ⟨y16, ey16⟩ : ∃ z : Int32, z = x4 + 1 := ⟨_, rfl⟩
          have hf := sq_e hf y16 ey16
          refine lv_iinc (v := y16) (lv' := [(4, .int y16), (2, .int y8), (0, .ref (ad 0)), (1, .int x1), (3, .int x3)]) hx hb dX8_supposed_83 hl (k := 4) rfl (by rw [ey16]; rfl) (by decide) rfl (fun ls hl => ?_)
          refine lv_goto (tgt := 38) hx hb dX8_supposed_86 (by decide) ?_
          exact hK38 σ14 x1 y8 x3 y16 _ _ _ hB (lv_sub hl [2, 3, 1, 4, 0] rfl) hf
        · have hf := it_f hf c15
          refine lv_iload hx hb dX8_supposed_80 (lv_at hl 4 rfl) ?_
          refine lv_istore_n (lv' := [(3, .int x4), (2, .int y8), (0, .ref (ad 0)), (1, .int x1), (4, .int x4)]) hx hb dX8_supposed_82 rfl hl (by decide) rfl (fun ls hl => ?_)
          obtain ⟨y17, ey17⟩ : ∃ z : Int32, z = x4 + 1 := ⟨_, rfl⟩
          have hf := sq_e hf y17 ey17
          refine lv_iinc (v := y17) (lv' := [(4, .int y17), (3, .int x4), (2, .int y8), (0, .ref (ad 0)), (1, .int x1)]) hx hb dX8_supposed_83 hl (k := 4) rfl (by rw [ey17]; rfl) (by decide) rfl (fun ls hl => ?_)
          refine lv_goto (tgt := 38) hx hb dX8_supposed_86 (by decide) ?_
          exact hK38 σ14 x1 y8 x4 y17 _ _ _ hB (lv_sub hl [3, 4, 2, 1, 0] rfl) hf
    · have hf := it_f hf c7
      refine lv_goto (tgt := 83) hx hb dX8_supposed_58 (by decide) ?_
      obtain ⟨y18, ey18⟩ : ∃ z : Int32, z = x4 + 1 := ⟨_, rfl⟩
      have hf := sq_e hf y18 ey18
      refine lv_iinc (v := y18) (lv' := [(4, .int y18), (0, .ref (ad 0)), (1, .int x1), (2, .int x2), (3, .int x3)]) hx hb dX8_supposed_83 hl (k := 4) rfl (by rw [ey18]; rfl) (by decide) rfl (fun ls hl => ?_)
      refine lv_goto (tgt := 38) hx hb dX8_supposed_86 (by decide) ?_
      exact hK38 σ6 x1 x2 x3 y18 _ _ _ hB (lv_sub hl [1, 2, 3, 4, 0] rfl) hf
def lm_supposed_38 (n : Nat) : Nat → MS → Int32 → Int32 → Int32 → Int32 → Option (Int32 × MS)
  | 0 => fun _ _ _ _ _ => none
  | k + 1 => bm_supposed_38 n (lm_supposed_38 n k)
theorem tlm_supposed_38 {p : Program} {l : Launch} {e : Env} {s : State} {m : MethodId} {args : Array Value} {below : List Frame} {meth : Method} {c : Code} {D : va_G} {A : Nat → Prop} {ad : Nat → Nat} {cy : ClassId} {r0 : Int32} {σ0 : MS} (hc : cxB RX8 wsM cX8_supposed 5 (some .int) p s m args meth c) (hK : va_K D vwCl [(cy, .int)] s) (hA : ∀ q, s.heap.size ≤ q → A q) (n : Nat) : ∀ (k : Nat) (σ : MS) (x1 : Int32) (x2 : Int32) (x3 : Int32) (x4 : Int32) (H : Heap) (locs : List Loc) (ls : Array Slot), mB D ad cy A s.heap σ H locs → lv_has ls 5 [(0, .ref (ad 0)), (1, .int x1), (2, .int x2), (3, .int x3), (4, .int x4)] → lm_supposed_38 n k σ x1 x2 x3 x4 = some (r0, σ0) → W p l e rm_supposed s m args below meth c H locs 0 0 (MQ below (mQi D ad cy A r0 σ0) args s 0 0 A) (F0 m 38 ls []) := by
  intro k
  induction k with
  | zero =>
    intro σ x1 x2 x3 x4 H locs ls hB hl hf
    have hf : (none : Option (Int32 × MS)) = some (r0, σ0) := hf
    cases hf
  | succ k ih =>
    intro σ x1 x2 x3 x4 H locs ls hB hl hf
    exact tbm_supposed_38 hc hK hA n (lm_supposed_38 n k) ih σ x1 x2 x3 x4 hB hl hf
def fm_supposed (n : Nat) (σ : MS) (x1 : Int32) : Option (Int32 × MS) := bd (fm_isIn n σ x1 0 1) (fun r1 σ2 => if (r1 = 0) then (bd (fm_no n σ2 (-2)) (fun r10 σ11 => some (r10, σ11))) else (if ((σ2.1 0 38) = 0) then (bd (fm_no n σ2 (-3)) (fun r8 σ9 => some (r8, σ9))) else (sq (0 : Int32) (fun y5 => sq ((-9) : Int32) (fun y6 => sq (0 : Int32) (fun y7 => lm_supposed_38 n n σ2 x1 y5 y6 y7))))))
set_option maxRecDepth 100000 in
set_option maxHeartbeats 4000000 in
theorem tbm_supposed_0 {p : Program} {l : Launch} {e : Env} {s : State} {m : MethodId} {args : Array Value} {below : List Frame} {meth : Method} {c : Code} {D : va_G} {A : Nat → Prop} {ad : Nat → Nat} {cy : ClassId} {r0 : Int32} {σ0 : MS} (hc : cxB RX8 wsM cX8_supposed 5 (some .int) p s m args meth c) (hK : va_K D vwCl [(cy, .int)] s) (hA : ∀ q, s.heap.size ≤ q → A q) (n : Nat) (σ : MS) (x1 : Int32) {H : Heap} {locs : List Loc} {ls : Array Slot} (hB : mB D ad cy A s.heap σ H locs) (hl : lv_has ls 5 [(0, .ref (ad 0)), (1, .int x1)]) (hf : fm_supposed n σ x1 = some (r0, σ0)) : W p l e rm_supposed s m args below meth c H locs 0 0 (MQ below (mQi D ad cy A r0 σ0) args s 0 0 A) (F0 m 0 ls []) := by
  obtain ⟨hx, hb, hml, hown, hts, hr, hlocks⟩ := id hc
  unfold fm_supposed at hf
  refine lv_iload_n hx hb dX8_supposed_0 rfl (lv_at hl 1 rfl) ?_
  refine lv_iconst (v := 0) hx hb dX8_supposed_1 (by decide) ?_
  refine lv_iconst (v := 1) hx hb dX8_supposed_2 (by decide) ?_
  obtain ⟨r1, σ2, hkr1, hf⟩ := bd_e hf
  refine rm_calliS (av := [.int x1, .int 0, .int 1]) (rest := []) hx hb hml hown hts hl.1 hK hA hB (cm_isIn l D ad cy n σ x1 0 1 hkr1) (kw_isIn hts ⟨Nat.le_of_ble_eq_true rfl, Nat.le_of_ble_eq_true rfl⟩) rfl rfl (lv_room (Nat.le_of_ble_eq_true rfl)) dX8_supposed_3 (Nat.le_refl _) (Nat.le_refl _) (fun H locs hB => ?_)
  refine lv_if_ne (tgt := 16) hx hb dX8_supposed_6 (by decide) (fun c3 => ?_) (fun c3 => ?_)
  · have hf := it_f hf c3
    refine lv_aload_n hx hb dX8_supposed_16 rfl (lv_at hl 0 rfl) ?_
    refine rm_get hx hb hts inM hown hK hB 38 (Nat.le_of_ble_eq_true rfl) qf_253 rfl dX8_supposed_17 ?_
    refine lv_if_ne (tgt := 30) hx hb dX8_supposed_20 (by decide) (fun c4 => ?_) (fun c4 => ?_)
    · have hf := it_f hf c4
      refine lv_iconst (v := 0) hx hb dX8_supposed_30 (by decide) ?_
      refine lv_topi (fun y5 ey5 => ?_)
      have hf := sq_e hf y5 ey5
      refine lv_istore_n (lv' := [(2, .int y5), (0, .ref (ad 0)), (1, .int x1)]) hx hb dX8_supposed_31 rfl hl (by decide) rfl (fun ls hl => ?_)
      refine lv_bipush (v := (-9)) hx hb dX8_supposed_32 (by decide) ?_
      refine lv_topi (fun y6 ey6 => ?_)
      have hf := sq_e hf y6 ey6
      refine lv_istore_n (lv' := [(3, .int y6), (2, .int y5), (0, .ref (ad 0)), (1, .int x1)]) hx hb dX8_supposed_34 rfl hl (by decide) rfl (fun ls hl => ?_)
      refine lv_iconst (v := 0) hx hb dX8_supposed_35 (by decide) ?_
      refine lv_topi (fun y7 ey7 => ?_)
      have hf := sq_e hf y7 ey7
      refine lv_istore (lv' := [(4, .int y7), (3, .int y6), (2, .int y5), (0, .ref (ad 0)), (1, .int x1)]) hx hb dX8_supposed_36 hl (by decide) rfl (fun ls hl => ?_)
      exact tlm_supposed_38 hc hK hA n n σ2 x1 y5 y6 y7 _ _ _ hB (lv_sub hl [3, 4, 2, 1, 0] rfl) hf
    · have hf := it_t hf c4
      refine lv_aload_n hx hb dX8_supposed_23 rfl (lv_at hl 0 rfl) ?_
      refine lv_bipush (v := (-3)) hx hb dX8_supposed_24 (by decide) ?_
      obtain ⟨r8, σ9, hkr8, hf⟩ := bd_e hf
      refine rm_calliV (av := [.int (-3)]) (rest := []) hx hb hml hown hts hl.1 hK hA hB (cm_no l D ad cy n σ2 (-3) hkr8) (kw_no hts ⟨Nat.le_of_ble_eq_true rfl, Nat.le_of_ble_eq_true rfl⟩) rfl rfl (lv_room (Nat.le_of_ble_eq_true rfl)) dX8_supposed_26 (Nat.le_refl _) (Nat.le_refl _) (fun H locs hB => ?_)
      obtain ⟨rfl, rfl⟩ := so_e hf
      exact rm_iret hx hb hr hlocks hK hB dX8_supposed_29
  · have hf := it_t hf c3
    refine lv_aload_n hx hb dX8_supposed_9 rfl (lv_at hl 0 rfl) ?_
    refine lv_bipush (v := (-2)) hx hb dX8_supposed_10 (by decide) ?_
    obtain ⟨r10, σ11, hkr10, hf⟩ := bd_e hf
    refine rm_calliV (av := [.int (-2)]) (rest := []) hx hb hml hown hts hl.1 hK hA hB (cm_no l D ad cy n σ2 (-2) hkr10) (kw_no hts ⟨Nat.le_of_ble_eq_true rfl, Nat.le_of_ble_eq_true rfl⟩) rfl rfl (lv_room (Nat.le_of_ble_eq_true rfl)) dX8_supposed_12 (Nat.le_refl _) (Nat.le_refl _) (fun H locs hB => ?_)
    obtain ⟨rfl, rfl⟩ := so_e hf
    exact rm_iret hx hb hr hlocks hK hB dX8_supposed_15
theorem cm_supposed (l : Launch) (D : va_G) (ad : Nat → Nat) (cy : ClassId) (n : Nat) (σ : MS) (x1 : Int32) {r0 : Int32} {σ0 : MS} (hf : fm_supposed n σ x1 = some (r0, σ0)) : mMi l yX8_supposed wn_supposed rm_supposed D ad cy [.ref (ad 0), .int x1] σ r0 σ0 :=
  rm_meti (ret := (some .int)) (by decide) rfl (Nat.le_of_ble_eq_true rfl) (fun p e s m below meth c A ls hc hK hA hB hl => tbm_supposed_0 hc hK hA n σ x1 hB hl hf)
