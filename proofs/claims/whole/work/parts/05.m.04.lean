/-! goes -/
abbrev rm_goes : Room := { frames := 4, cells := 0, slots := 0, locals := 103 }
abbrev wn_goes : List Cond := .code yX8_goes cX8_goes 3 (some .int) :: wsM
def fm_goes (n : Nat) (σ : MS) (x1 : Int32) : Option (Int32 × MS) := bd (fm_reckons n σ x1) (fun r1 σ2 => sq (mp σ2 0 26 ((σ2.1 0 26) - r1)) (fun σ3 => sq (mp σ3 0 29 ((σ3.1 0 29) + x1)) (fun σ4 => if ((σ4.1 0 26) = 0) then (some (1, σ4)) else (if ((σ4.1 0 34) = 0) then (if (r1 = 0) then (some (3, σ4)) else (if ((σ4.1 0 29) < 9999) then (some (0, σ4)) else (some (4, σ4)))) else (some (2, σ4))))))
set_option maxRecDepth 100000 in
set_option maxHeartbeats 4000000 in
theorem tbm_goes_0 {p : Program} {l : Launch} {e : Env} {s : State} {m : MethodId} {args : Array Value} {below : List Frame} {meth : Method} {c : Code} {D : va_G} {A : Nat → Prop} {ad : Nat → Nat} {cy : ClassId} {r0 : Int32} {σ0 : MS} (hc : cxB RX8 wsM cX8_goes 3 (some .int) p s m args meth c) (hK : va_K D vwCl [(cy, .int)] s) (hA : ∀ q, s.heap.size ≤ q → A q) (n : Nat) (σ : MS) (x1 : Int32) {H : Heap} {locs : List Loc} {ls : Array Slot} (hB : mB D ad cy A s.heap σ H locs) (hl : lv_has ls 3 [(0, .ref (ad 0)), (1, .int x1)]) (hf : fm_goes n σ x1 = some (r0, σ0)) : W p l e rm_goes s m args below meth c H locs 0 0 (MQ below (mQi D ad cy A r0 σ0) args s 0 0 A) (F0 m 0 ls []) := by
  obtain ⟨hx, hb, hml, hown, hts, hr, hlocks⟩ := id hc
  unfold fm_goes at hf
  refine lv_aload_n hx hb dX8_goes_0 rfl (lv_at hl 0 rfl) ?_
  refine lv_iload_n hx hb dX8_goes_1 rfl (lv_at hl 1 rfl) ?_
  obtain ⟨r1, σ2, hkr1, hf⟩ := bd_e hf
  refine rm_calliV (av := [.int x1]) (rest := []) hx hb hml hown hts hl.1 hK hA hB (cm_reckons l D ad cy n σ x1 hkr1) (kw_reckons hts ⟨Nat.le_of_ble_eq_true rfl, Nat.le_of_ble_eq_true rfl⟩) rfl rfl (lv_room (Nat.le_of_ble_eq_true rfl)) dX8_goes_2 (Nat.le_refl _) (Nat.le_refl _) (fun H locs hB => ?_)
  refine lv_istore_n (lv' := [(2, .int r1), (0, .ref (ad 0)), (1, .int x1)]) hx hb dX8_goes_5 rfl hl (by decide) rfl (fun ls hl => ?_)
  refine lv_aload_n hx hb dX8_goes_6 rfl (lv_at hl 1 rfl) ?_
  refine lv_dup hx hb dX8_goes_7 rfl ?_
  refine rm_get hx hb hts inM hown hK hB 26 (Nat.le_of_ble_eq_true rfl) qf_187 rfl dX8_goes_8 ?_
  refine lv_iload_n hx hb dX8_goes_11 rfl (lv_at hl 0 rfl) ?_
  refine lv_isub hx hb dX8_goes_12 ?_
  refine rm_puti hx hb hts inM hown hK hB 26 (Nat.le_of_ble_eq_true rfl) qf_187 (ms_26 _ _ _) rfl pd_26 rfl rfl dX8_goes_13 (fun σ3 eσ3 H locs hB => ?_)
  have hf := sq_e hf σ3 eσ3
  refine lv_aload_n hx hb dX8_goes_16 rfl (lv_at hl 1 rfl) ?_
  refine lv_dup hx hb dX8_goes_17 rfl ?_
  refine rm_get hx hb hts inM hown hK hB 29 (Nat.le_of_ble_eq_true rfl) qf_203 rfl dX8_goes_18 ?_
  refine lv_iload_n hx hb dX8_goes_21 rfl (lv_at hl 2 rfl) ?_
  refine lv_iadd hx hb dX8_goes_22 ?_
  refine rm_puti hx hb hts inM hown hK hB 29 (Nat.le_of_ble_eq_true rfl) qf_203 (ms_29 _ _ _) rfl pd_29 rfl rfl dX8_goes_23 (fun σ4 eσ4 H locs hB => ?_)
  have hf := sq_e hf σ4 eσ4
  refine lv_aload_n hx hb dX8_goes_26 rfl (lv_at hl 1 rfl) ?_
  refine rm_get hx hb hts inM hown hK hB 26 (Nat.le_of_ble_eq_true rfl) qf_187 rfl dX8_goes_27 ?_
  refine lv_if_ne (tgt := 37) hx hb dX8_goes_30 (by decide) (fun c5 => ?_) (fun c5 => ?_)
  · have hf := it_f hf c5
    refine lv_aload_n hx hb dX8_goes_37 rfl (lv_at hl 1 rfl) ?_
    refine rm_get hx hb hts inM hown hK hB 34 (Nat.le_of_ble_eq_true rfl) qf_212 rfl dX8_goes_38 ?_
    refine lv_if_eq (tgt := 48) hx hb dX8_goes_41 (by decide) (fun c6 => ?_) (fun c6 => ?_)
    · have hf := it_t hf c6
      refine lv_iload_n hx hb dX8_goes_48 rfl (lv_at hl 0 rfl) ?_
      refine lv_if_ne (tgt := 56) hx hb dX8_goes_49 (by decide) (fun c7 => ?_) (fun c7 => ?_)
      · have hf := it_f hf c7
        refine lv_aload_n hx hb dX8_goes_56 rfl (lv_at hl 1 rfl) ?_
        refine rm_get hx hb hts inM hown hK hB 29 (Nat.le_of_ble_eq_true rfl) qf_203 rfl dX8_goes_57 ?_
        refine lv_sipush (v := 9999) hx hb dX8_goes_60 (by decide) ?_
        refine lv_icmp_lt (tgt := 70) hx hb dX8_goes_63 (by decide) (fun c8 => ?_) (fun c8 => ?_)
        · have hf := it_t hf c8
          refine lv_iconst (v := 0) hx hb dX8_goes_70 (by decide) ?_
          obtain ⟨rfl, rfl⟩ := so_e hf
          exact rm_iret hx hb hr hlocks hK hB dX8_goes_71
        · have hf := it_f hf c8
          refine lv_iconst (v := 4) hx hb dX8_goes_66 (by decide) ?_
          refine lv_goto (tgt := 71) hx hb dX8_goes_67 (by decide) ?_
          obtain ⟨rfl, rfl⟩ := so_e hf
          exact rm_iret hx hb hr hlocks hK hB dX8_goes_71
      · have hf := it_t hf c7
        refine lv_iconst (v := 3) hx hb dX8_goes_52 (by decide) ?_
        refine lv_goto (tgt := 71) hx hb dX8_goes_53 (by decide) ?_
        obtain ⟨rfl, rfl⟩ := so_e hf
        exact rm_iret hx hb hr hlocks hK hB dX8_goes_71
    · have hf := it_f hf c6
      refine lv_iconst (v := 2) hx hb dX8_goes_44 (by decide) ?_
      refine lv_goto (tgt := 71) hx hb dX8_goes_45 (by decide) ?_
      obtain ⟨rfl, rfl⟩ := so_e hf
      exact rm_iret hx hb hr hlocks hK hB dX8_goes_71
  · have hf := it_t hf c5
    refine lv_iconst (v := 1) hx hb dX8_goes_33 (by decide) ?_
    refine lv_goto (tgt := 71) hx hb dX8_goes_34 (by decide) ?_
    obtain ⟨rfl, rfl⟩ := so_e hf
    exact rm_iret hx hb hr hlocks hK hB dX8_goes_71
theorem cm_goes (l : Launch) (D : va_G) (ad : Nat → Nat) (cy : ClassId) (n : Nat) (σ : MS) (x1 : Int32) {r0 : Int32} {σ0 : MS} (hf : fm_goes n σ x1 = some (r0, σ0)) : mMi l yX8_goes wn_goes rm_goes D ad cy [.ref (ad 0), .int x1] σ r0 σ0 :=
  rm_meti (ret := (some .int)) (by decide) rfl (Nat.le_of_ble_eq_true rfl) (fun p e s m below meth c A ls hc hK hA hB hl => tbm_goes_0 hc hK hA n σ x1 hB hl hf)
theorem kw_goes {R : Room} {s : State} {args : Array Value} (hts : ∀ w ∈ wsM, w.before args s = true) (hR : rm_goes.frames + 1 ≤ R.frames ∧ 8 + (3 + 11) + rm_goes.locals ≤ R.locals) : CallW R s args RX8 RX8 228 yX8_goes cX8_goes 3 (some .int) wn_goes rm_goes 0 0 1 := cwV 1 hts (gM_v qw_147 qw_148 qw_149 qw_37 qw_145) rfl rfl rfl (by decide +kernel) hR
/-! lastsOn -/
abbrev rm_lastsOn : Room := { frames := 5, cells := 0, slots := 0, locals := 125 }
abbrev wn_lastsOn : List Cond := .code yX8_lastsOn cX8_lastsOn 2 (some .int) :: wsM
def bm_lastsOn_5 (n : Nat) (K5 : MS → Int32 → Option (Int32 × MS)) (σ : MS) (x1 : Int32) : Option (Int32 × MS) := if ((σ.1 0 35) = 0) then (bd (fm_goes n σ x1) (fun r2 σ3 => sq (mp σ3 0 35 r2) (fun σ4 => K5 σ4 x1))) else (some ((σ.1 0 29), σ))
set_option maxRecDepth 100000 in
set_option maxHeartbeats 4000000 in
theorem tbm_lastsOn_5 {p : Program} {l : Launch} {e : Env} {s : State} {m : MethodId} {args : Array Value} {below : List Frame} {meth : Method} {c : Code} {D : va_G} {A : Nat → Prop} {ad : Nat → Nat} {cy : ClassId} {r0 : Int32} {σ0 : MS} (hc : cxB RX8 wsM cX8_lastsOn 2 (some .int) p s m args meth c) (hK : va_K D vwCl [(cy, .int)] s) (hA : ∀ q, s.heap.size ≤ q → A q) (n : Nat) (K5 : MS → Int32 → Option (Int32 × MS)) (hK5 : ∀ (σ : MS) (x1 : Int32) (H : Heap) (locs : List Loc) (ls : Array Slot), mB D ad cy A s.heap σ H locs → lv_has ls 2 [(0, .ref (ad 0)), (1, .int x1)] → K5 σ x1 = some (r0, σ0) → W p l e rm_lastsOn s m args below meth c H locs 0 0 (MQ below (mQi D ad cy A r0 σ0) args s 0 0 A) (F0 m 5 ls [])) (σ : MS) (x1 : Int32) {H : Heap} {locs : List Loc} {ls : Array Slot} (hB : mB D ad cy A s.heap σ H locs) (hl : lv_has ls 2 [(0, .ref (ad 0)), (1, .int x1)]) (hf : bm_lastsOn_5 n K5 σ x1 = some (r0, σ0)) : W p l e rm_lastsOn s m args below meth c H locs 0 0 (MQ below (mQi D ad cy A r0 σ0) args s 0 0 A) (F0 m 5 ls []) := by
  obtain ⟨hx, hb, hml, hown, hts, hr, hlocks⟩ := id hc
  unfold bm_lastsOn_5 at hf
  refine lv_aload_n hx hb dX8_lastsOn_5 rfl (lv_at hl 0 rfl) ?_
  refine rm_get hx hb hts inM hown hK hB 35 (Nat.le_of_ble_eq_true rfl) qf_225 rfl dX8_lastsOn_6 ?_
  refine lv_if_ne (tgt := 24) hx hb dX8_lastsOn_9 (by decide) (fun c1 => ?_) (fun c1 => ?_)
  · have hf := it_f hf c1
    refine lv_aload_n hx hb dX8_lastsOn_24 rfl (lv_at hl 0 rfl) ?_
    refine rm_get hx hb hts inM hown hK hB 29 (Nat.le_of_ble_eq_true rfl) qf_203 rfl dX8_lastsOn_25 ?_
    obtain ⟨rfl, rfl⟩ := so_e hf
    exact rm_iret hx hb hr hlocks hK hB dX8_lastsOn_28
  · have hf := it_t hf c1
    refine lv_aload_n hx hb dX8_lastsOn_12 rfl (lv_at hl 0 rfl) ?_
    refine lv_aload_n hx hb dX8_lastsOn_13 rfl (lv_at hl 0 rfl) ?_
    refine lv_iload_n hx hb dX8_lastsOn_14 rfl (lv_at hl 1 rfl) ?_
    obtain ⟨r2, σ3, hkr2, hf⟩ := bd_e hf
    refine rm_calliV (av := [.int x1]) (rest := [.ref (ad 0)]) hx hb hml hown hts hl.1 hK hA hB (cm_goes l D ad cy n σ x1 hkr2) (kw_goes hts ⟨Nat.le_of_ble_eq_true rfl, Nat.le_of_ble_eq_true rfl⟩) rfl rfl (lv_room (Nat.le_of_ble_eq_true rfl)) dX8_lastsOn_15 (Nat.le_refl _) (Nat.le_refl _) (fun H locs hB => ?_)
    refine rm_puti hx hb hts inM hown hK hB 35 (Nat.le_of_ble_eq_true rfl) qf_225 (ms_35 _ _ _) rfl pd_35 rfl rfl dX8_lastsOn_18 (fun σ4 eσ4 H locs hB => ?_)
    have hf := sq_e hf σ4 eσ4
    refine lv_goto (tgt := 5) hx hb dX8_lastsOn_21 (by decide) ?_
    exact hK5 σ4 x1 _ _ _ hB (lv_sub hl [0, 1] rfl) hf
def lm_lastsOn_5 (n : Nat) : Nat → MS → Int32 → Option (Int32 × MS)
  | 0 => fun _ _ => none
  | k + 1 => bm_lastsOn_5 n (lm_lastsOn_5 n k)
theorem tlm_lastsOn_5 {p : Program} {l : Launch} {e : Env} {s : State} {m : MethodId} {args : Array Value} {below : List Frame} {meth : Method} {c : Code} {D : va_G} {A : Nat → Prop} {ad : Nat → Nat} {cy : ClassId} {r0 : Int32} {σ0 : MS} (hc : cxB RX8 wsM cX8_lastsOn 2 (some .int) p s m args meth c) (hK : va_K D vwCl [(cy, .int)] s) (hA : ∀ q, s.heap.size ≤ q → A q) (n : Nat) : ∀ (k : Nat) (σ : MS) (x1 : Int32) (H : Heap) (locs : List Loc) (ls : Array Slot), mB D ad cy A s.heap σ H locs → lv_has ls 2 [(0, .ref (ad 0)), (1, .int x1)] → lm_lastsOn_5 n k σ x1 = some (r0, σ0) → W p l e rm_lastsOn s m args below meth c H locs 0 0 (MQ below (mQi D ad cy A r0 σ0) args s 0 0 A) (F0 m 5 ls []) := by
  intro k
  induction k with
  | zero =>
    intro σ x1 H locs ls hB hl hf
    have hf : (none : Option (Int32 × MS)) = some (r0, σ0) := hf
    cases hf
  | succ k ih =>
    intro σ x1 H locs ls hB hl hf
    exact tbm_lastsOn_5 hc hK hA n (lm_lastsOn_5 n k) ih σ x1 hB hl hf
def fm_lastsOn (n : Nat) (σ : MS) (x1 : Int32) : Option (Int32 × MS) := sq (mp σ 0 35 0) (fun σ1 => lm_lastsOn_5 n n σ1 x1)
set_option maxRecDepth 100000 in
set_option maxHeartbeats 4000000 in
theorem tbm_lastsOn_0 {p : Program} {l : Launch} {e : Env} {s : State} {m : MethodId} {args : Array Value} {below : List Frame} {meth : Method} {c : Code} {D : va_G} {A : Nat → Prop} {ad : Nat → Nat} {cy : ClassId} {r0 : Int32} {σ0 : MS} (hc : cxB RX8 wsM cX8_lastsOn 2 (some .int) p s m args meth c) (hK : va_K D vwCl [(cy, .int)] s) (hA : ∀ q, s.heap.size ≤ q → A q) (n : Nat) (σ : MS) (x1 : Int32) {H : Heap} {locs : List Loc} {ls : Array Slot} (hB : mB D ad cy A s.heap σ H locs) (hl : lv_has ls 2 [(0, .ref (ad 0)), (1, .int x1)]) (hf : fm_lastsOn n σ x1 = some (r0, σ0)) : W p l e rm_lastsOn s m args below meth c H locs 0 0 (MQ below (mQi D ad cy A r0 σ0) args s 0 0 A) (F0 m 0 ls []) := by
  obtain ⟨hx, hb, hml, hown, hts, hr, hlocks⟩ := id hc
  unfold fm_lastsOn at hf
  refine lv_aload_n hx hb dX8_lastsOn_0 rfl (lv_at hl 0 rfl) ?_
  refine lv_iconst (v := 0) hx hb dX8_lastsOn_1 (by decide) ?_
  refine rm_puti hx hb hts inM hown hK hB 35 (Nat.le_of_ble_eq_true rfl) qf_225 (ms_35 _ _ _) rfl pd_35 rfl rfl dX8_lastsOn_2 (fun σ1 eσ1 H locs hB => ?_)
  have hf := sq_e hf σ1 eσ1
  exact tlm_lastsOn_5 hc hK hA n n σ1 x1 _ _ _ hB (lv_sub hl [0, 1] rfl) hf
theorem cm_lastsOn (l : Launch) (D : va_G) (ad : Nat → Nat) (cy : ClassId) (n : Nat) (σ : MS) (x1 : Int32) {r0 : Int32} {σ0 : MS} (hf : fm_lastsOn n σ x1 = some (r0, σ0)) : mMi l yX8_lastsOn wn_lastsOn rm_lastsOn D ad cy [.ref (ad 0), .int x1] σ r0 σ0 :=
  rm_meti (ret := (some .int)) (by decide) rfl (Nat.le_of_ble_eq_true rfl) (fun p e s m below meth c A ls hc hK hA hB hl => tbm_lastsOn_0 hc hK hA n σ x1 hB hl hf)
theorem kw_lastsOn {R : Room} {s : State} {args : Array Value} (hts : ∀ w ∈ wsM, w.before args s = true) (hR : rm_lastsOn.frames + 1 ≤ R.frames ∧ 8 + (2 + 11) + rm_lastsOn.locals ≤ R.locals) : CallW R s args RX8 RX8 238 yX8_lastsOn cX8_lastsOn 2 (some .int) wn_lastsOn rm_lastsOn 0 0 1 := cwV 1 hts (gM_v qw_158 qw_159 qw_160 qw_37 qw_150) rfl rfl rfl (by decide +kernel) hR
/-! all -/
abbrev rm_all : Room := { frames := 0, cells := 0, slots := 0, locals := 0 }
abbrev wn_all : List Cond := .code yX8_all cX8_all 1 (some .int) :: wsM
def fm_all (n : Nat) (σ : MS) : Option (Int32 × MS) := some (((1 <<< ((σ.1 0 21) &&& 31)) - 1), σ)
set_option maxRecDepth 100000 in
set_option maxHeartbeats 4000000 in
theorem tbm_all_0 {p : Program} {l : Launch} {e : Env} {s : State} {m : MethodId} {args : Array Value} {below : List Frame} {meth : Method} {c : Code} {D : va_G} {A : Nat → Prop} {ad : Nat → Nat} {cy : ClassId} {r0 : Int32} {σ0 : MS} (hc : cxB RX8 wsM cX8_all 1 (some .int) p s m args meth c) (hK : va_K D vwCl [(cy, .int)] s) (hA : ∀ q, s.heap.size ≤ q → A q) (n : Nat) (σ : MS) {H : Heap} {locs : List Loc} {ls : Array Slot} (hB : mB D ad cy A s.heap σ H locs) (hl : lv_has ls 1 [(0, .ref (ad 0))]) (hf : fm_all n σ = some (r0, σ0)) : W p l e rm_all s m args below meth c H locs 0 0 (MQ below (mQi D ad cy A r0 σ0) args s 0 0 A) (F0 m 0 ls []) := by
  obtain ⟨hx, hb, hml, hown, hts, hr, hlocks⟩ := id hc
  unfold fm_all at hf
  refine lv_iconst (v := 1) hx hb dX8_all_0 (by decide) ?_
  refine lv_aload_n hx hb dX8_all_1 rfl (lv_at hl 0 rfl) ?_
  refine rm_get hx hb hts inM hown hK hB 21 (Nat.le_of_ble_eq_true rfl) qf_155 rfl dX8_all_2 ?_
  refine lv_ishl hx hb dX8_all_5 ?_
  refine lv_iconst (v := 1) hx hb dX8_all_6 (by decide) ?_
  refine lv_isub hx hb dX8_all_7 ?_
  obtain ⟨rfl, rfl⟩ := so_e hf
  exact rm_iret hx hb hr hlocks hK hB dX8_all_8
theorem cm_all (l : Launch) (D : va_G) (ad : Nat → Nat) (cy : ClassId) (n : Nat) (σ : MS) {r0 : Int32} {σ0 : MS} (hf : fm_all n σ = some (r0, σ0)) : mMi l yX8_all wn_all rm_all D ad cy [.ref (ad 0)] σ r0 σ0 :=
  rm_meti (ret := (some .int)) (by decide) rfl (Nat.le_of_ble_eq_true rfl) (fun p e s m below meth c A ls hc hK hA hB hl => tbm_all_0 hc hK hA n σ hB hl hf)
theorem kw_all {R : Room} {s : State} {args : Array Value} (hts : ∀ w ∈ wsM, w.before args s = true) (hR : rm_all.frames + 1 ≤ R.frames ∧ 8 + (1 + 11) + rm_all.locals ≤ R.locals) : CallW R s args RX8 RX8 231 yX8_all cX8_all 1 (some .int) wn_all rm_all 0 0 0 := cwV 0 hts (gM_v qw_152 qw_153 qw_154 qw_37 qw_151) rfl rfl rfl (by decide +kernel) hR
/-! lastsOf -/
abbrev rm_lastsOf : Room := { frames := 6, cells := 0, slots := 0, locals := 146 }
abbrev wn_lastsOf : List Cond := .code yX8_lastsOf cX8_lastsOf 4 (some .int) :: wsM
def fm_lastsOf (n : Nat) (σ : MS) (x1 : Int32) (x2 : Int32) (x3 : Int32) : Option (Int32 × MS) := bd (fm_all n σ) (fun r1 σ2 => bd (fm_begins n σ2 x1 x2 x3 r1) (fun _ σ4 => bd (fm_lastsOn n σ4 1) (fun r5 σ6 => some (r5, σ6))))
set_option maxRecDepth 100000 in
set_option maxHeartbeats 4000000 in
theorem tbm_lastsOf_0 {p : Program} {l : Launch} {e : Env} {s : State} {m : MethodId} {args : Array Value} {below : List Frame} {meth : Method} {c : Code} {D : va_G} {A : Nat → Prop} {ad : Nat → Nat} {cy : ClassId} {r0 : Int32} {σ0 : MS} (hc : cxB RX8 wsM cX8_lastsOf 4 (some .int) p s m args meth c) (hK : va_K D vwCl [(cy, .int)] s) (hA : ∀ q, s.heap.size ≤ q → A q) (n : Nat) (σ : MS) (x1 : Int32) (x2 : Int32) (x3 : Int32) {H : Heap} {locs : List Loc} {ls : Array Slot} (hB : mB D ad cy A s.heap σ H locs) (hl : lv_has ls 4 [(0, .ref (ad 0)), (1, .int x1), (2, .int x2), (3, .int x3)]) (hf : fm_lastsOf n σ x1 x2 x3 = some (r0, σ0)) : W p l e rm_lastsOf s m args below meth c H locs 0 0 (MQ below (mQi D ad cy A r0 σ0) args s 0 0 A) (F0 m 0 ls []) := by
  obtain ⟨hx, hb, hml, hown, hts, hr, hlocks⟩ := id hc
  unfold fm_lastsOf at hf
  refine lv_aload_n hx hb dX8_lastsOf_0 rfl (lv_at hl 0 rfl) ?_
  refine lv_iload_n hx hb dX8_lastsOf_1 rfl (lv_at hl 1 rfl) ?_
  refine lv_iload_n hx hb dX8_lastsOf_2 rfl (lv_at hl 2 rfl) ?_
  refine lv_iload_n hx hb dX8_lastsOf_3 rfl (lv_at hl 3 rfl) ?_
  refine lv_aload_n hx hb dX8_lastsOf_4 rfl (lv_at hl 0 rfl) ?_
  obtain ⟨r1, σ2, hkr1, hf⟩ := bd_e hf
  refine rm_calliV (av := []) (rest := [.int x3, .int x2, .int x1, .ref (ad 0)]) hx hb hml hown hts hl.1 hK hA hB (cm_all l D ad cy n σ hkr1) (kw_all hts ⟨Nat.le_of_ble_eq_true rfl, Nat.le_of_ble_eq_true rfl⟩) rfl rfl (lv_room (Nat.le_of_ble_eq_true rfl)) dX8_lastsOf_5 (Nat.le_refl _) (Nat.le_refl _) (fun H locs hB => ?_)
  obtain ⟨r3, σ4, hkr3, hf⟩ := bd_e hf
  refine rm_callvV (av := [.int x1, .int x2, .int x3, .int r1]) (rest := []) hx hb hml hown hts hl.1 hK hA hB (cm_begins l D ad cy n σ2 x1 x2 x3 r1 hkr3) (kw_begins hts ⟨Nat.le_of_ble_eq_true rfl, Nat.le_of_ble_eq_true rfl⟩) rfl rfl (lv_room (Nat.le_of_ble_eq_true rfl)) dX8_lastsOf_8 (Nat.le_refl _) (Nat.le_refl _) (fun H locs hB => ?_)
  refine lv_aload_n hx hb dX8_lastsOf_11 rfl (lv_at hl 0 rfl) ?_
  refine lv_iconst (v := 1) hx hb dX8_lastsOf_12 (by decide) ?_
  obtain ⟨r5, σ6, hkr5, hf⟩ := bd_e hf
  refine rm_calliV (av := [.int 1]) (rest := []) hx hb hml hown hts hl.1 hK hA hB (cm_lastsOn l D ad cy n σ4 1 hkr5) (kw_lastsOn hts ⟨Nat.le_of_ble_eq_true rfl, Nat.le_of_ble_eq_true rfl⟩) rfl rfl (lv_room (Nat.le_of_ble_eq_true rfl)) dX8_lastsOf_13 (Nat.le_refl _) (Nat.le_refl _) (fun H locs hB => ?_)
  obtain ⟨rfl, rfl⟩ := so_e hf
  exact rm_iret hx hb hr hlocks hK hB dX8_lastsOf_16
theorem cm_lastsOf (l : Launch) (D : va_G) (ad : Nat → Nat) (cy : ClassId) (n : Nat) (σ : MS) (x1 : Int32) (x2 : Int32) (x3 : Int32) {r0 : Int32} {σ0 : MS} (hf : fm_lastsOf n σ x1 x2 x3 = some (r0, σ0)) : mMi l yX8_lastsOf wn_lastsOf rm_lastsOf D ad cy [.ref (ad 0), .int x1, .int x2, .int x3] σ r0 σ0 :=
  rm_meti (ret := (some .int)) (by decide) rfl (Nat.le_of_ble_eq_true rfl) (fun p e s m below meth c A ls hc hK hA hB hl => tbm_lastsOf_0 hc hK hA n σ x1 x2 x3 hB hl hf)
theorem kw_lastsOf {R : Room} {s : State} {args : Array Value} (hts : ∀ w ∈ wsM, w.before args s = true) (hR : rm_lastsOf.frames + 1 ≤ R.frames ∧ 8 + (4 + 11) + rm_lastsOf.locals ≤ R.locals) : CallW R s args RX8 RX8 272 yX8_lastsOf cX8_lastsOf 4 (some .int) wn_lastsOf rm_lastsOf 0 0 3 := cwV 3 hts (gM_v qw_175 qw_176 qw_177 qw_37 qw_161) rfl rfl rfl (by decide +kernel) hR
/-! toneAt -/
abbrev rm_toneAt : Room := { frames := 1, cells := 0, slots := 0, locals := 22 }
abbrev wn_toneAt : List Cond := .code yX8_toneAt cX8_toneAt 4 (some .int) :: wsM
def fm_toneAt (n : Nat) (σ : MS) (x1 : Int32) (x2 : Int32) : Option (Int32 × MS) := bd (fm_isPlate n σ x1) (fun r1 σ2 => if (r1 = 0) then (bd (fm_no n σ2 (-1)) (fun r11 σ12 => some (r11, σ12))) else (bd (fm_bound n σ2 x2 0 9000) (fun r4 σ5 => if (r4 = 0) then (bd (fm_toneOf n σ5 x1 x2) (fun r7 σ8 => some (r7, σ8))) else (bd (fm_no n σ5 r4) (fun r9 σ10 => some (r9, σ10))))))
set_option maxRecDepth 100000 in
set_option maxHeartbeats 4000000 in
theorem tbm_toneAt_0 {p : Program} {l : Launch} {e : Env} {s : State} {m : MethodId} {args : Array Value} {below : List Frame} {meth : Method} {c : Code} {D : va_G} {A : Nat → Prop} {ad : Nat → Nat} {cy : ClassId} {r0 : Int32} {σ0 : MS} (hc : cxB RX8 wsM cX8_toneAt 4 (some .int) p s m args meth c) (hK : va_K D vwCl [(cy, .int)] s) (hA : ∀ q, s.heap.size ≤ q → A q) (n : Nat) (σ : MS) (x1 : Int32) (x2 : Int32) {H : Heap} {locs : List Loc} {ls : Array Slot} (hB : mB D ad cy A s.heap σ H locs) (hl : lv_has ls 4 [(0, .ref (ad 0)), (1, .int x1), (2, .int x2)]) (hf : fm_toneAt n σ x1 x2 = some (r0, σ0)) : W p l e rm_toneAt s m args below meth c H locs 0 0 (MQ below (mQi D ad cy A r0 σ0) args s 0 0 A) (F0 m 0 ls []) := by
  obtain ⟨hx, hb, hml, hown, hts, hr, hlocks⟩ := id hc
  unfold fm_toneAt at hf
  refine lv_aload_n hx hb dX8_toneAt_0 rfl (lv_at hl 0 rfl) ?_
  refine lv_iload_n hx hb dX8_toneAt_1 rfl (lv_at hl 1 rfl) ?_
  obtain ⟨r1, σ2, hkr1, hf⟩ := bd_e hf
  refine rm_calliV (av := [.int x1]) (rest := []) hx hb hml hown hts hl.1 hK hA hB (cm_isPlate l D ad cy n σ x1 hkr1) (kw_isPlate hts ⟨Nat.le_of_ble_eq_true rfl, Nat.le_of_ble_eq_true rfl⟩) rfl rfl (lv_room (Nat.le_of_ble_eq_true rfl)) dX8_toneAt_2 (Nat.le_refl _) (Nat.le_refl _) (fun H locs hB => ?_)
  refine lv_if_ne (tgt := 14) hx hb dX8_toneAt_5 (by decide) (fun c3 => ?_) (fun c3 => ?_)
  · have hf := it_f hf c3
    refine lv_iload_n hx hb dX8_toneAt_14 rfl (lv_at hl 2 rfl) ?_
    refine lv_iconst (v := 0) hx hb dX8_toneAt_15 (by decide) ?_
    refine lv_sipush (v := 9000) hx hb dX8_toneAt_16 (by decide) ?_
    obtain ⟨r4, σ5, hkr4, hf⟩ := bd_e hf
    refine rm_calliS (av := [.int x2, .int 0, .int 9000]) (rest := []) hx hb hml hown hts hl.1 hK hA hB (cm_bound l D ad cy n σ2 x2 0 9000 hkr4) (kw_bound hts ⟨Nat.le_of_ble_eq_true rfl, Nat.le_of_ble_eq_true rfl⟩) rfl rfl (lv_room (Nat.le_of_ble_eq_true rfl)) dX8_toneAt_19 (Nat.le_refl _) (Nat.le_refl _) (fun H locs hB => ?_)
    refine lv_istore_n (lv' := [(3, .int r4), (0, .ref (ad 0)), (1, .int x1), (2, .int x2)]) hx hb dX8_toneAt_22 rfl hl (by decide) rfl (fun ls hl => ?_)
    refine lv_iload_n hx hb dX8_toneAt_23 rfl (lv_at hl 0 rfl) ?_
    refine lv_if_eq (tgt := 35) hx hb dX8_toneAt_24 (by decide) (fun c6 => ?_) (fun c6 => ?_)
    · have hf := it_t hf c6
      refine lv_aload_n hx hb dX8_toneAt_35 rfl (lv_at hl 1 rfl) ?_
      refine lv_iload_n hx hb dX8_toneAt_36 rfl (lv_at hl 2 rfl) ?_
      refine lv_iload_n hx hb dX8_toneAt_37 rfl (lv_at hl 3 rfl) ?_
      obtain ⟨r7, σ8, hkr7, hf⟩ := bd_e hf
      refine rm_calliV (av := [.int x1, .int x2]) (rest := []) hx hb hml hown hts hl.1 hK hA hB (cm_toneOf l D ad cy n σ5 x1 x2 hkr7) (kw_toneOf hts ⟨Nat.le_of_ble_eq_true rfl, Nat.le_of_ble_eq_true rfl⟩) rfl rfl (lv_room (Nat.le_of_ble_eq_true rfl)) dX8_toneAt_38 (Nat.le_refl _) (Nat.le_refl _) (fun H locs hB => ?_)
      obtain ⟨rfl, rfl⟩ := so_e hf
      exact rm_iret hx hb hr hlocks hK hB dX8_toneAt_41
    · have hf := it_f hf c6
      refine lv_aload_n hx hb dX8_toneAt_27 rfl (lv_at hl 1 rfl) ?_
      refine lv_iload_n hx hb dX8_toneAt_28 rfl (lv_at hl 0 rfl) ?_
      obtain ⟨r9, σ10, hkr9, hf⟩ := bd_e hf
      refine rm_calliV (av := [.int r4]) (rest := []) hx hb hml hown hts hl.1 hK hA hB (cm_no l D ad cy n σ5 r4 hkr9) (kw_no hts ⟨Nat.le_of_ble_eq_true rfl, Nat.le_of_ble_eq_true rfl⟩) rfl rfl (lv_room (Nat.le_of_ble_eq_true rfl)) dX8_toneAt_29 (Nat.le_refl _) (Nat.le_refl _) (fun H locs hB => ?_)
      refine lv_goto (tgt := 41) hx hb dX8_toneAt_32 (by decide) ?_
      obtain ⟨rfl, rfl⟩ := so_e hf
      exact rm_iret hx hb hr hlocks hK hB dX8_toneAt_41
  · have hf := it_t hf c3
    refine lv_aload_n hx hb dX8_toneAt_8 rfl (lv_at hl 0 rfl) ?_
    refine lv_iconst (v := (-1)) hx hb dX8_toneAt_9 (by decide) ?_
    obtain ⟨r11, σ12, hkr11, hf⟩ := bd_e hf
    refine rm_calliV (av := [.int (-1)]) (rest := []) hx hb hml hown hts hl.1 hK hA hB (cm_no l D ad cy n σ2 (-1) hkr11) (kw_no hts ⟨Nat.le_of_ble_eq_true rfl, Nat.le_of_ble_eq_true rfl⟩) rfl rfl (lv_room (Nat.le_of_ble_eq_true rfl)) dX8_toneAt_10 (Nat.le_refl _) (Nat.le_refl _) (fun H locs hB => ?_)
    obtain ⟨rfl, rfl⟩ := so_e hf
    exact rm_iret hx hb hr hlocks hK hB dX8_toneAt_13
theorem cm_toneAt (l : Launch) (D : va_G) (ad : Nat → Nat) (cy : ClassId) (n : Nat) (σ : MS) (x1 : Int32) (x2 : Int32) {r0 : Int32} {σ0 : MS} (hf : fm_toneAt n σ x1 x2 = some (r0, σ0)) : mMi l yX8_toneAt wn_toneAt rm_toneAt D ad cy [.ref (ad 0), .int x1, .int x2] σ r0 σ0 :=
  rm_meti (ret := (some .int)) (by decide) rfl (Nat.le_of_ble_eq_true rfl) (fun p e s m below meth c A ls hc hK hA hB hl => tbm_toneAt_0 hc hK hA n σ x1 x2 hB hl hf)
/-! takes -/
abbrev rm_takes : Room := { frames := 3, cells := 0, slots := 0, locals := 78 }
abbrev wn_takes : List Cond := .code yX8_takes cX8_takes 7 (some .int) :: wsM
def fm_takes (n : Nat) (σ : MS) (x1 : Int32) (x2 : Int32) (x3 : Int32) (x4 : Int32) (x5 : Int32) : Option (Int32 × MS) := bd (fm_isLoss n σ x1) (fun r1 σ2 => if (r1 = 0) then (bd (fm_no n σ2 (-1)) (fun r4 σ5 => some (r4, σ5))) else (bd (fm_isPlate n σ2 x2) (fun r6 σ7 => if (r6 = 0) then (bd (fm_no n σ7 (-1)) (fun r9 σ10 => some (r9, σ10))) else (bd (fm_isFloor n σ7 x4) (fun r11 σ12 => if (r11 = 0) then (bd (fm_no n σ12 (-1)) (fun r30 σ31 => some (r30, σ31))) else (bd (fm_bounds n σ12 x3 9000 x5 9999) (fun r14 σ15 => if (r14 = 0) then (bd (fm_begins n σ15 x2 x3 x4 0) (fun _ σ18 => sq (mp σ18 0 29 x5) (fun σ19 => ck (ib x1 9) (sq ((σ19.1 10 (Int32.toNatClampNeg x1)) : Int32) (fun y21 => ck (ib x1 9) (sq ((σ19.1 11 (Int32.toNatClampNeg x1)) : Int32) (fun y23 => ck (ib x1 9) (sq ((σ19.1 12 (Int32.toNatClampNeg x1)) : Int32) (fun y25 => bd (fm_takeOf n σ19 x1 y21 y23 y25) (fun r26 σ27 => some (r26, σ27))))))))))) else (bd (fm_no n σ15 r14) (fun r28 σ29 => some (r28, σ29))))))))))
set_option maxRecDepth 100000 in
set_option maxHeartbeats 4000000 in
theorem tbm_takes_0 {p : Program} {l : Launch} {e : Env} {s : State} {m : MethodId} {args : Array Value} {below : List Frame} {meth : Method} {c : Code} {D : va_G} {A : Nat → Prop} {ad : Nat → Nat} {cy : ClassId} {r0 : Int32} {σ0 : MS} (hc : cxB RX8 wsM cX8_takes 7 (some .int) p s m args meth c) (hK : va_K D vwCl [(cy, .int)] s) (hA : ∀ q, s.heap.size ≤ q → A q) (n : Nat) (σ : MS) (x1 : Int32) (x2 : Int32) (x3 : Int32) (x4 : Int32) (x5 : Int32) {H : Heap} {locs : List Loc} {ls : Array Slot} (hB : mB D ad cy A s.heap σ H locs) (hl : lv_has ls 7 [(0, .ref (ad 0)), (1, .int x1), (2, .int x2), (3, .int x3), (4, .int x4), (5, .int x5)]) (hf : fm_takes n σ x1 x2 x3 x4 x5 = some (r0, σ0)) : W p l e rm_takes s m args below meth c H locs 0 0 (MQ below (mQi D ad cy A r0 σ0) args s 0 0 A) (F0 m 0 ls []) := by
  obtain ⟨hx, hb, hml, hown, hts, hr, hlocks⟩ := id hc
  unfold fm_takes at hf
  refine lv_aload_n hx hb dX8_takes_0 rfl (lv_at hl 0 rfl) ?_
  refine lv_iload_n hx hb dX8_takes_1 rfl (lv_at hl 1 rfl) ?_
  obtain ⟨r1, σ2, hkr1, hf⟩ := bd_e hf
  refine rm_calliV (av := [.int x1]) (rest := []) hx hb hml hown hts hl.1 hK hA hB (cm_isLoss l D ad cy n σ x1 hkr1) (kw_isLoss hts ⟨Nat.le_of_ble_eq_true rfl, Nat.le_of_ble_eq_true rfl⟩) rfl rfl (lv_room (Nat.le_of_ble_eq_true rfl)) dX8_takes_2 (Nat.le_refl _) (Nat.le_refl _) (fun H locs hB => ?_)
  refine lv_if_eq (tgt := 24) hx hb dX8_takes_5 (by decide) (fun c3 => ?_) (fun c3 => ?_)
  · have hf := it_t hf c3
    refine lv_aload_n hx hb dX8_takes_24 rfl (lv_at hl 0 rfl) ?_
    refine lv_iconst (v := (-1)) hx hb dX8_takes_25 (by decide) ?_
    obtain ⟨r4, σ5, hkr4, hf⟩ := bd_e hf
    refine rm_calliV (av := [.int (-1)]) (rest := []) hx hb hml hown hts hl.1 hK hA hB (cm_no l D ad cy n σ2 (-1) hkr4) (kw_no hts ⟨Nat.le_of_ble_eq_true rfl, Nat.le_of_ble_eq_true rfl⟩) rfl rfl (lv_room (Nat.le_of_ble_eq_true rfl)) dX8_takes_26 (Nat.le_refl _) (Nat.le_refl _) (fun H locs hB => ?_)
    obtain ⟨rfl, rfl⟩ := so_e hf
    exact rm_iret hx hb hr hlocks hK hB dX8_takes_29
  · have hf := it_f hf c3
    refine lv_aload_n hx hb dX8_takes_8 rfl (lv_at hl 0 rfl) ?_
    refine lv_iload_n hx hb dX8_takes_9 rfl (lv_at hl 2 rfl) ?_
    obtain ⟨r6, σ7, hkr6, hf⟩ := bd_e hf
    refine rm_calliV (av := [.int x2]) (rest := []) hx hb hml hown hts hl.1 hK hA hB (cm_isPlate l D ad cy n σ2 x2 hkr6) (kw_isPlate hts ⟨Nat.le_of_ble_eq_true rfl, Nat.le_of_ble_eq_true rfl⟩) rfl rfl (lv_room (Nat.le_of_ble_eq_true rfl)) dX8_takes_10 (Nat.le_refl _) (Nat.le_refl _) (fun H locs hB => ?_)
    refine lv_if_eq (tgt := 24) hx hb dX8_takes_13 (by decide) (fun c8 => ?_) (fun c8 => ?_)
    · have hf := it_t hf c8
      refine lv_aload_n hx hb dX8_takes_24 rfl (lv_at hl 0 rfl) ?_
      refine lv_iconst (v := (-1)) hx hb dX8_takes_25 (by decide) ?_
      obtain ⟨r9, σ10, hkr9, hf⟩ := bd_e hf
      refine rm_calliV (av := [.int (-1)]) (rest := []) hx hb hml hown hts hl.1 hK hA hB (cm_no l D ad cy n σ7 (-1) hkr9) (kw_no hts ⟨Nat.le_of_ble_eq_true rfl, Nat.le_of_ble_eq_true rfl⟩) rfl rfl (lv_room (Nat.le_of_ble_eq_true rfl)) dX8_takes_26 (Nat.le_refl _) (Nat.le_refl _) (fun H locs hB => ?_)
      obtain ⟨rfl, rfl⟩ := so_e hf
      exact rm_iret hx hb hr hlocks hK hB dX8_takes_29
    · have hf := it_f hf c8
      refine lv_iload hx hb dX8_takes_16 (lv_at hl 4 rfl) ?_
      obtain ⟨r11, σ12, hkr11, hf⟩ := bd_e hf
      refine rm_calliS (av := [.int x4]) (rest := []) hx hb hml hown hts hl.1 hK hA hB (cm_isFloor l D ad cy n σ7 x4 hkr11) (kw_isFloor hts ⟨Nat.le_of_ble_eq_true rfl, Nat.le_of_ble_eq_true rfl⟩) rfl rfl (lv_room (Nat.le_of_ble_eq_true rfl)) dX8_takes_18 (Nat.le_refl _) (Nat.le_refl _) (fun H locs hB => ?_)
      refine lv_if_ne (tgt := 30) hx hb dX8_takes_21 (by decide) (fun c13 => ?_) (fun c13 => ?_)
      · have hf := it_f hf c13
        refine lv_iload_n hx hb dX8_takes_30 rfl (lv_at hl 3 rfl) ?_
        refine lv_sipush (v := 9000) hx hb dX8_takes_31 (by decide) ?_
        refine lv_iload hx hb dX8_takes_34 (lv_at hl 5 rfl) ?_
        refine lv_sipush (v := 9999) hx hb dX8_takes_36 (by decide) ?_
        obtain ⟨r14, σ15, hkr14, hf⟩ := bd_e hf
        refine rm_calliS (av := [.int x3, .int 9000, .int x5, .int 9999]) (rest := []) hx hb hml hown hts hl.1 hK hA hB (cm_bounds l D ad cy n σ12 x3 9000 x5 9999 hkr14) (kw_bounds hts ⟨Nat.le_of_ble_eq_true rfl, Nat.le_of_ble_eq_true rfl⟩) rfl rfl (lv_room (Nat.le_of_ble_eq_true rfl)) dX8_takes_39 (Nat.le_refl _) (Nat.le_refl _) (fun H locs hB => ?_)
        refine lv_istore (lv' := [(6, .int r14), (0, .ref (ad 0)), (1, .int x1), (2, .int x2), (3, .int x3), (4, .int x4), (5, .int x5)]) hx hb dX8_takes_42 hl (by decide) rfl (fun ls hl => ?_)
        refine lv_iload hx hb dX8_takes_44 (lv_at hl 0 rfl) ?_
        refine lv_if_eq (tgt := 56) hx hb dX8_takes_46 (by decide) (fun c16 => ?_) (fun c16 => ?_)
        · have hf := it_t hf c16
          refine lv_aload_n hx hb dX8_takes_56 rfl (lv_at hl 1 rfl) ?_
          refine lv_iload_n hx hb dX8_takes_57 rfl (lv_at hl 3 rfl) ?_
          refine lv_iload_n hx hb dX8_takes_58 rfl (lv_at hl 4 rfl) ?_
          refine lv_iload hx hb dX8_takes_59 (lv_at hl 5 rfl) ?_
          refine lv_iconst (v := 0) hx hb dX8_takes_61 (by decide) ?_
          obtain ⟨r17, σ18, hkr17, hf⟩ := bd_e hf
          refine rm_callvV (av := [.int x2, .int x3, .int x4, .int 0]) (rest := []) hx hb hml hown hts hl.1 hK hA hB (cm_begins l D ad cy n σ15 x2 x3 x4 0 hkr17) (kw_begins hts ⟨Nat.le_of_ble_eq_true rfl, Nat.le_of_ble_eq_true rfl⟩) rfl rfl (lv_room (Nat.le_of_ble_eq_true rfl)) dX8_takes_62 (Nat.le_refl _) (Nat.le_refl _) (fun H locs hB => ?_)
          refine lv_aload_n hx hb dX8_takes_65 rfl (lv_at hl 1 rfl) ?_
          refine lv_iload hx hb dX8_takes_66 (lv_at hl 6 rfl) ?_
          refine rm_puti hx hb hts inM hown hK hB 29 (Nat.le_of_ble_eq_true rfl) qf_203 (ms_29 _ _ _) rfl pd_29 rfl rfl dX8_takes_68 (fun σ19 eσ19 H locs hB => ?_)
          have hf := sq_e hf σ19 eσ19
          refine lv_aload_n hx hb dX8_takes_71 rfl (lv_at hl 1 rfl) ?_
          refine lv_iload_n hx hb dX8_takes_72 rfl (lv_at hl 2 rfl) ?_
          refine lv_aload_n hx hb dX8_takes_73 rfl (lv_at hl 1 rfl) ?_
          refine rm_get hx hb hts inM hown hK hB 13 (Nat.le_of_ble_eq_true rfl) qf_41 rfl dX8_takes_74 ?_
          refine lv_iload_n hx hb dX8_takes_77 rfl (lv_at hl 2 rfl) ?_
          obtain ⟨k20, hf⟩ := ck_e hf
          refine rm_ald hx hb hK hB 10 rfl k20 dX8_takes_78 ?_
          refine lv_topi (fun y21 ey21 => ?_)
          have hf := sq_e hf y21 ey21
          refine lv_aload_n hx hb dX8_takes_79 rfl (lv_at hl 1 rfl) ?_
          refine rm_get hx hb hts inM hown hK hB 14 (Nat.le_of_ble_eq_true rfl) qf_44 rfl dX8_takes_80 ?_
          refine lv_iload_n hx hb dX8_takes_83 rfl (lv_at hl 2 rfl) ?_
          obtain ⟨k22, hf⟩ := ck_e hf
          refine rm_ald hx hb hK hB 11 rfl k22 dX8_takes_84 ?_
          refine lv_topi (fun y23 ey23 => ?_)
          have hf := sq_e hf y23 ey23
          refine lv_aload_n hx hb dX8_takes_85 rfl (lv_at hl 1 rfl) ?_
          refine rm_get hx hb hts inM hown hK hB 15 (Nat.le_of_ble_eq_true rfl) qf_47 rfl dX8_takes_86 ?_
          refine lv_iload_n hx hb dX8_takes_89 rfl (lv_at hl 2 rfl) ?_
          obtain ⟨k24, hf⟩ := ck_e hf
          refine rm_ald hx hb hK hB 12 rfl k24 dX8_takes_90 ?_
          refine lv_topi (fun y25 ey25 => ?_)
          have hf := sq_e hf y25 ey25
          obtain ⟨r26, σ27, hkr26, hf⟩ := bd_e hf
          refine rm_calliV (av := [.int x1, .int y21, .int y23, .int y25]) (rest := []) hx hb hml hown hts hl.1 hK hA hB (cm_takeOf l D ad cy n σ19 x1 y21 y23 y25 hkr26) (kw_takeOf hts ⟨Nat.le_of_ble_eq_true rfl, Nat.le_of_ble_eq_true rfl⟩) rfl rfl (lv_room (Nat.le_of_ble_eq_true rfl)) dX8_takes_91 (Nat.le_refl _) (Nat.le_refl _) (fun H locs hB => ?_)
          obtain ⟨rfl, rfl⟩ := so_e hf
          exact rm_iret hx hb hr hlocks hK hB dX8_takes_94
        · have hf := it_f hf c16
          refine lv_aload_n hx hb dX8_takes_49 rfl (lv_at hl 1 rfl) ?_
          refine lv_iload hx hb dX8_takes_50 (lv_at hl 0 rfl) ?_
          obtain ⟨r28, σ29, hkr28, hf⟩ := bd_e hf
          refine rm_calliV (av := [.int r14]) (rest := []) hx hb hml hown hts hl.1 hK hA hB (cm_no l D ad cy n σ15 r14 hkr28) (kw_no hts ⟨Nat.le_of_ble_eq_true rfl, Nat.le_of_ble_eq_true rfl⟩) rfl rfl (lv_room (Nat.le_of_ble_eq_true rfl)) dX8_takes_52 (Nat.le_refl _) (Nat.le_refl _) (fun H locs hB => ?_)
          obtain ⟨rfl, rfl⟩ := so_e hf
          exact rm_iret hx hb hr hlocks hK hB dX8_takes_55
      · have hf := it_t hf c13
        refine lv_aload_n hx hb dX8_takes_24 rfl (lv_at hl 0 rfl) ?_
        refine lv_iconst (v := (-1)) hx hb dX8_takes_25 (by decide) ?_
        obtain ⟨r30, σ31, hkr30, hf⟩ := bd_e hf
        refine rm_calliV (av := [.int (-1)]) (rest := []) hx hb hml hown hts hl.1 hK hA hB (cm_no l D ad cy n σ12 (-1) hkr30) (kw_no hts ⟨Nat.le_of_ble_eq_true rfl, Nat.le_of_ble_eq_true rfl⟩) rfl rfl (lv_room (Nat.le_of_ble_eq_true rfl)) dX8_takes_26 (Nat.le_refl _) (Nat.le_refl _) (fun H locs hB => ?_)
        obtain ⟨rfl, rfl⟩ := so_e hf
        exact rm_iret hx hb hr hlocks hK hB dX8_takes_29
theorem cm_takes (l : Launch) (D : va_G) (ad : Nat → Nat) (cy : ClassId) (n : Nat) (σ : MS) (x1 : Int32) (x2 : Int32) (x3 : Int32) (x4 : Int32) (x5 : Int32) {r0 : Int32} {σ0 : MS} (hf : fm_takes n σ x1 x2 x3 x4 x5 = some (r0, σ0)) : mMi l yX8_takes wn_takes rm_takes D ad cy [.ref (ad 0), .int x1, .int x2, .int x3, .int x4, .int x5] σ r0 σ0 :=
  rm_meti (ret := (some .int)) (by decide) rfl (Nat.le_of_ble_eq_true rfl) (fun p e s m below meth c A ls hc hK hA hB hl => tbm_takes_0 hc hK hA n σ x1 x2 x3 x4 x5 hB hl hf)
/-! keepsTenth -/
abbrev rm_keepsTenth : Room := { frames := 1, cells := 0, slots := 0, locals := 22 }
abbrev wn_keepsTenth : List Cond := .code yX8_keepsTenth cX8_keepsTenth 1 none :: wsM
def fm_keepsTenth (n : Nat) (σ : MS) : Option (Int32 × MS) := if (((σ.1 0 42) - (σ.1 0 42) / 10 * 10) = 0) then (if ((σ.1 0 45) = 100) then (some (0, σ)) else (ck (ib (σ.1 0 45) 100) (sq (mp σ 19 (Int32.toNatClampNeg (σ.1 0 45)) (σ.1 0 40)) (fun σ4 => bd (fm_toneOf n σ4 (σ4.1 0 39) (σ4.1 0 40)) (fun r5 σ6 => ck (ib (σ4.1 0 45) 100) (sq (mp σ6 20 (Int32.toNatClampNeg (σ4.1 0 45)) r5) (fun σ8 => sq (mp σ8 0 45 ((σ8.1 0 45) + 1)) (fun σ9 => some (0, σ9))))))))) else (some (0, σ))
set_option maxRecDepth 100000 in
set_option maxHeartbeats 4000000 in
theorem tbm_keepsTenth_0 {p : Program} {l : Launch} {e : Env} {s : State} {m : MethodId} {args : Array Value} {below : List Frame} {meth : Method} {c : Code} {D : va_G} {A : Nat → Prop} {ad : Nat → Nat} {cy : ClassId} {r0 : Int32} {σ0 : MS} (hc : cxB RX8 wsM cX8_keepsTenth 1 none p s m args meth c) (hK : va_K D vwCl [(cy, .int)] s) (hA : ∀ q, s.heap.size ≤ q → A q) (n : Nat) (σ : MS) {H : Heap} {locs : List Loc} {ls : Array Slot} (hB : mB D ad cy A s.heap σ H locs) (hl : lv_has ls 1 [(0, .ref (ad 0))]) (hf : fm_keepsTenth n σ = some (r0, σ0)) : W p l e rm_keepsTenth s m args below meth c H locs 0 0 (MQ below (mQv D ad cy A σ0) args s 0 0 A) (F0 m 0 ls []) := by
  obtain ⟨hx, hb, hml, hown, hts, hr, hlocks⟩ := id hc
  unfold fm_keepsTenth at hf
  refine lv_aload_n hx hb dX8_keepsTenth_0 rfl (lv_at hl 0 rfl) ?_
  refine rm_get hx hb hts inM hown hK hB 42 (Nat.le_of_ble_eq_true rfl) qf_241 rfl dX8_keepsTenth_1 ?_
  refine lv_bipush (v := 10) hx hb dX8_keepsTenth_4 (by decide) ?_
  refine lv_irem hx hb dX8_keepsTenth_6 (by decide) ?_
  refine lv_if_ne (tgt := 19) hx hb dX8_keepsTenth_7 (by decide) (fun c1 => ?_) (fun c1 => ?_)
  · have hf := it_f hf c1
    obtain ⟨rfl, rfl⟩ := so_e hf
    exact rm_vret hx hb hr hlocks hK hB dX8_keepsTenth_19
  · have hf := it_t hf c1
    refine lv_aload_n hx hb dX8_keepsTenth_10 rfl (lv_at hl 0 rfl) ?_
    refine rm_get hx hb hts inM hown hK hB 45 (Nat.le_of_ble_eq_true rfl) qf_244 rfl dX8_keepsTenth_11 ?_
    refine lv_bipush (v := 100) hx hb dX8_keepsTenth_14 (by decide) ?_
    refine lv_icmp_ne (tgt := 20) hx hb dX8_keepsTenth_16 (by decide) (fun c2 => ?_) (fun c2 => ?_)
    · have hf := it_f hf c2
      refine lv_aload_n hx hb dX8_keepsTenth_20 rfl (lv_at hl 0 rfl) ?_
      refine rm_get hx hb hts inM hown hK hB 36 (Nat.le_of_ble_eq_true rfl) qf_68 rfl dX8_keepsTenth_21 ?_
      refine lv_aload_n hx hb dX8_keepsTenth_24 rfl (lv_at hl 0 rfl) ?_
      refine rm_get hx hb hts inM hown hK hB 45 (Nat.le_of_ble_eq_true rfl) qf_244 rfl dX8_keepsTenth_25 ?_
      refine lv_aload_n hx hb dX8_keepsTenth_28 rfl (lv_at hl 0 rfl) ?_
      refine rm_get hx hb hts inM hown hK hB 40 (Nat.le_of_ble_eq_true rfl) qf_247 rfl dX8_keepsTenth_29 ?_
      obtain ⟨k3, hf⟩ := ck_e hf
      refine rm_ast hx hb hK hB 19 rfl (msa_19 _ _ _) k3 dX8_keepsTenth_32 (fun σ4 eσ4 H locs hB => ?_)
      have hf := sq_e hf σ4 eσ4
      refine lv_aload_n hx hb dX8_keepsTenth_33 rfl (lv_at hl 0 rfl) ?_
      refine rm_get hx hb hts inM hown hK hB 37 (Nat.le_of_ble_eq_true rfl) qf_71 rfl dX8_keepsTenth_34 ?_
      refine lv_aload_n hx hb dX8_keepsTenth_37 rfl (lv_at hl 0 rfl) ?_
      refine rm_get hx hb hts inM hown hK hB 45 (Nat.le_of_ble_eq_true rfl) qf_244 rfl dX8_keepsTenth_38 ?_
      refine lv_aload_n hx hb dX8_keepsTenth_41 rfl (lv_at hl 0 rfl) ?_
      refine lv_aload_n hx hb dX8_keepsTenth_42 rfl (lv_at hl 0 rfl) ?_
      refine rm_get hx hb hts inM hown hK hB 39 (Nat.le_of_ble_eq_true rfl) qf_250 rfl dX8_keepsTenth_43 ?_
      refine lv_aload_n hx hb dX8_keepsTenth_46 rfl (lv_at hl 0 rfl) ?_
      refine rm_get hx hb hts inM hown hK hB 40 (Nat.le_of_ble_eq_true rfl) qf_247 rfl dX8_keepsTenth_47 ?_
      obtain ⟨r5, σ6, hkr5, hf⟩ := bd_e hf
      refine rm_calliV (av := [.int (σ4.1 0 39), .int (σ4.1 0 40)]) (rest := [.int (σ4.1 0 45), .ref (ad 20)]) hx hb hml hown hts hl.1 hK hA hB (cm_toneOf l D ad cy n σ4 (σ4.1 0 39) (σ4.1 0 40) hkr5) (kw_toneOf hts ⟨Nat.le_of_ble_eq_true rfl, Nat.le_of_ble_eq_true rfl⟩) rfl rfl (lv_room (Nat.le_of_ble_eq_true rfl)) dX8_keepsTenth_50 (Nat.le_refl _) (Nat.le_refl _) (fun H locs hB => ?_)
      obtain ⟨k7, hf⟩ := ck_e hf
      refine rm_ast hx hb hK hB 20 rfl (msa_20 _ _ _) k7 dX8_keepsTenth_53 (fun σ8 eσ8 H locs hB => ?_)
      have hf := sq_e hf σ8 eσ8
      refine lv_aload_n hx hb dX8_keepsTenth_54 rfl (lv_at hl 0 rfl) ?_
      refine lv_dup hx hb dX8_keepsTenth_55 rfl ?_
      refine rm_get hx hb hts inM hown hK hB 45 (Nat.le_of_ble_eq_true rfl) qf_244 rfl dX8_keepsTenth_56 ?_
      refine lv_iconst (v := 1) hx hb dX8_keepsTenth_59 (by decide) ?_
      refine lv_iadd hx hb dX8_keepsTenth_60 ?_
      refine rm_puti hx hb hts inM hown hK hB 45 (Nat.le_of_ble_eq_true rfl) qf_244 (ms_45 _ _ _) rfl pd_45 rfl rfl dX8_keepsTenth_61 (fun σ9 eσ9 H locs hB => ?_)
      have hf := sq_e hf σ9 eσ9
      obtain ⟨rfl, rfl⟩ := so_e hf
      exact rm_vret hx hb hr hlocks hK hB dX8_keepsTenth_64
    · have hf := it_t hf c2
      obtain ⟨rfl, rfl⟩ := so_e hf
      exact rm_vret hx hb hr hlocks hK hB dX8_keepsTenth_19
theorem cm_keepsTenth (l : Launch) (D : va_G) (ad : Nat → Nat) (cy : ClassId) (n : Nat) (σ : MS) {r0 : Int32} {σ0 : MS} (hf : fm_keepsTenth n σ = some (r0, σ0)) : mMv l yX8_keepsTenth wn_keepsTenth rm_keepsTenth D ad cy [.ref (ad 0)] σ σ0 :=
  rm_metv (ret := none) (by decide) rfl (Nat.le_of_ble_eq_true rfl) (fun p e s m below meth c A ls hc hK hA hB hl => tbm_keepsTenth_0 hc hK hA n σ hB hl hf)
theorem kw_keepsTenth {R : Room} {s : State} {args : Array Value} (hts : ∀ w ∈ wsM, w.before args s = true) (hR : rm_keepsTenth.frames + 1 ≤ R.frames ∧ 8 + (1 + 11) + rm_keepsTenth.locals ≤ R.locals) : CallW R s args RX8 RX8 269 yX8_keepsTenth cX8_keepsTenth 1 none wn_keepsTenth rm_keepsTenth 0 0 0 := cwV 0 hts (gM_v qw_172 qw_173 qw_174 qw_37 qw_162) rfl rfl rfl (by decide +kernel) hR
/-! spin -/
abbrev rm_spin : Room := { frames := 2, cells := 0, slots := 0, locals := 42 }
abbrev wn_spin : List Cond := .code yX8_spin cX8_spin 6 (some .int) :: wsM
def bm_spin_91 (n : Nat) (K91 : MS → Int32 → Int32 → Int32 → Option (Int32 × MS)) (σ : MS) (x1 : Int32) (x2 : Int32) (x5 : Int32) : Option (Int32 × MS) := if ((σ.1 0 21) ≤ x5) then (bd (fm_keepsTenth n σ) (fun _ σ3 => bd (fm_toneOf n σ3 x1 x2) (fun r4 σ5 => some (r4, σ5)))) else (ck (ib x5 9) (sq (mp σ 13 (Int32.toNatClampNeg x5) 0) (fun σ7 => sq (x5 + 1 : Int32) (fun y8 => K91 σ7 x1 x2 y8))))
set_option maxRecDepth 100000 in
set_option maxHeartbeats 4000000 in
theorem tbm_spin_91 {p : Program} {l : Launch} {e : Env} {s : State} {m : MethodId} {args : Array Value} {below : List Frame} {meth : Method} {c : Code} {D : va_G} {A : Nat → Prop} {ad : Nat → Nat} {cy : ClassId} {r0 : Int32} {σ0 : MS} (hc : cxB RX8 wsM cX8_spin 6 (some .int) p s m args meth c) (hK : va_K D vwCl [(cy, .int)] s) (hA : ∀ q, s.heap.size ≤ q → A q) (n : Nat) (K91 : MS → Int32 → Int32 → Int32 → Option (Int32 × MS)) (hK91 : ∀ (σ : MS) (x1 : Int32) (x2 : Int32) (x5 : Int32) (H : Heap) (locs : List Loc) (ls : Array Slot), mB D ad cy A s.heap σ H locs → lv_has ls 6 [(0, .ref (ad 0)), (1, .int x1), (2, .int x2), (5, .int x5)] → K91 σ x1 x2 x5 = some (r0, σ0) → W p l e rm_spin s m args below meth c H locs 0 0 (MQ below (mQi D ad cy A r0 σ0) args s 0 0 A) (F0 m 91 ls [])) (σ : MS) (x1 : Int32) (x2 : Int32) (x5 : Int32) {H : Heap} {locs : List Loc} {ls : Array Slot} (hB : mB D ad cy A s.heap σ H locs) (hl : lv_has ls 6 [(0, .ref (ad 0)), (1, .int x1), (2, .int x2), (5, .int x5)]) (hf : bm_spin_91 n K91 σ x1 x2 x5 = some (r0, σ0)) : W p l e rm_spin s m args below meth c H locs 0 0 (MQ below (mQi D ad cy A r0 σ0) args s 0 0 A) (F0 m 91 ls []) := by
  obtain ⟨hx, hb, hml, hown, hts, hr, hlocks⟩ := id hc
  unfold bm_spin_91 at hf
  refine lv_iload hx hb dX8_spin_91 (lv_at hl 3 rfl) ?_
  refine lv_aload_n hx hb dX8_spin_93 rfl (lv_at hl 0 rfl) ?_
  refine rm_get hx hb hts inM hown hK hB 21 (Nat.le_of_ble_eq_true rfl) qf_155 rfl dX8_spin_94 ?_
  refine lv_icmp_ge (tgt := 114) hx hb dX8_spin_97 (by decide) (fun c1 => ?_) (fun c1 => ?_)
  · have hf := it_t hf c1
    refine lv_aload_n hx hb dX8_spin_114 rfl (lv_at hl 0 rfl) ?_
    obtain ⟨r2, σ3, hkr2, hf⟩ := bd_e hf
    refine rm_callvV (av := []) (rest := []) hx hb hml hown hts hl.1 hK hA hB (cm_keepsTenth l D ad cy n σ hkr2) (kw_keepsTenth hts ⟨Nat.le_of_ble_eq_true rfl, Nat.le_of_ble_eq_true rfl⟩) rfl rfl (lv_room (Nat.le_of_ble_eq_true rfl)) dX8_spin_115 (Nat.le_refl _) (Nat.le_refl _) (fun H locs hB => ?_)
    refine lv_aload_n hx hb dX8_spin_118 rfl (lv_at hl 0 rfl) ?_
    refine lv_iload_n hx hb dX8_spin_119 rfl (lv_at hl 1 rfl) ?_
    refine lv_iload_n hx hb dX8_spin_120 rfl (lv_at hl 2 rfl) ?_
    obtain ⟨r4, σ5, hkr4, hf⟩ := bd_e hf
    refine rm_calliV (av := [.int x1, .int x2]) (rest := []) hx hb hml hown hts hl.1 hK hA hB (cm_toneOf l D ad cy n σ3 x1 x2 hkr4) (kw_toneOf hts ⟨Nat.le_of_ble_eq_true rfl, Nat.le_of_ble_eq_true rfl⟩) rfl rfl (lv_room (Nat.le_of_ble_eq_true rfl)) dX8_spin_121 (Nat.le_refl _) (Nat.le_refl _) (fun H locs hB => ?_)
    obtain ⟨rfl, rfl⟩ := so_e hf
    exact rm_iret hx hb hr hlocks hK hB dX8_spin_124
  · have hf := it_f hf c1
    refine lv_aload_n hx hb dX8_spin_100 rfl (lv_at hl 0 rfl) ?_
    refine rm_get hx hb hts inM hown hK hB 16 (Nat.le_of_ble_eq_true rfl) qf_50 rfl dX8_spin_101 ?_
    refine lv_iload hx hb dX8_spin_104 (lv_at hl 3 rfl) ?_
    refine lv_iconst (v := 0) hx hb dX8_spin_106 (by decide) ?_
    obtain ⟨k6, hf⟩ := ck_e hf
    refine rm_ast hx hb hK hB 13 rfl (msa_13 _ _ _) k6 dX8_spin_107 (fun σ7 eσ7 H locs hB => ?_)
    have hf := sq_e hf σ7 eσ7
    obtain ⟨y8, ey8⟩ : ∃ z : Int32, z = x5 + 1 := ⟨_, rfl⟩
    have hf := sq_e hf y8 ey8
    refine lv_iinc (v := y8) (lv' := [(5, .int y8), (0, .ref (ad 0)), (1, .int x1), (2, .int x2)]) hx hb dX8_spin_108 hl (k := 3) rfl (by rw [ey8]; rfl) (by decide) rfl (fun ls hl => ?_)
    refine lv_goto (tgt := 91) hx hb dX8_spin_111 (by decide) ?_
    exact hK91 σ7 x1 x2 y8 _ _ _ hB (lv_sub hl [1, 2, 3, 0] rfl) hf
def lm_spin_91 (n : Nat) : Nat → MS → Int32 → Int32 → Int32 → Option (Int32 × MS)
  | 0 => fun _ _ _ _ => none
  | k + 1 => bm_spin_91 n (lm_spin_91 n k)
theorem tlm_spin_91 {p : Program} {l : Launch} {e : Env} {s : State} {m : MethodId} {args : Array Value} {below : List Frame} {meth : Method} {c : Code} {D : va_G} {A : Nat → Prop} {ad : Nat → Nat} {cy : ClassId} {r0 : Int32} {σ0 : MS} (hc : cxB RX8 wsM cX8_spin 6 (some .int) p s m args meth c) (hK : va_K D vwCl [(cy, .int)] s) (hA : ∀ q, s.heap.size ≤ q → A q) (n : Nat) : ∀ (k : Nat) (σ : MS) (x1 : Int32) (x2 : Int32) (x5 : Int32) (H : Heap) (locs : List Loc) (ls : Array Slot), mB D ad cy A s.heap σ H locs → lv_has ls 6 [(0, .ref (ad 0)), (1, .int x1), (2, .int x2), (5, .int x5)] → lm_spin_91 n k σ x1 x2 x5 = some (r0, σ0) → W p l e rm_spin s m args below meth c H locs 0 0 (MQ below (mQi D ad cy A r0 σ0) args s 0 0 A) (F0 m 91 ls []) := by
  intro k
  induction k with
  | zero =>
    intro σ x1 x2 x5 H locs ls hB hl hf
    have hf : (none : Option (Int32 × MS)) = some (r0, σ0) := hf
    cases hf
  | succ k ih =>
    intro σ x1 x2 x5 H locs ls hB hl hf
    exact tbm_spin_91 hc hK hA n (lm_spin_91 n k) ih σ x1 x2 x5 hB hl hf
def fm_spin (n : Nat) (σ : MS) (x1 : Int32) (x2 : Int32) (x3 : Int32) : Option (Int32 × MS) := bd (fm_isPlate n σ x1) (fun r1 σ2 => if (r1 = 0) then (bd (fm_no n σ2 (-1)) (fun r4 σ5 => some (r4, σ5))) else (bd (fm_isFloor n σ2 x3) (fun r6 σ7 => if (r6 = 0) then (bd (fm_no n σ7 (-1)) (fun r24 σ25 => some (r24, σ25))) else (bd (fm_bound n σ7 x2 0 9000) (fun r9 σ10 => if (r9 = 0) then (sq (mp σ10 0 38 1) (fun σ12 => sq (mp σ12 0 39 x1) (fun σ13 => sq (mp σ13 0 40 x2) (fun σ14 => sq (mp σ14 0 41 x3) (fun σ15 => sq (mp σ15 0 44 x2) (fun σ16 => sq (mp σ16 0 42 0) (fun σ17 => sq (mp σ17 0 43 0) (fun σ18 => sq (mq σ18 46 0) (fun σ19 => sq (mp σ19 0 45 0) (fun σ20 => sq (0 : Int32) (fun y21 => lm_spin_91 n n σ20 x1 x2 y21))))))))))) else (bd (fm_no n σ10 r9) (fun r22 σ23 => some (r22, σ23))))))))
set_option maxRecDepth 100000 in
set_option maxHeartbeats 4000000 in
theorem tbm_spin_0 {p : Program} {l : Launch} {e : Env} {s : State} {m : MethodId} {args : Array Value} {below : List Frame} {meth : Method} {c : Code} {D : va_G} {A : Nat → Prop} {ad : Nat → Nat} {cy : ClassId} {r0 : Int32} {σ0 : MS} (hc : cxB RX8 wsM cX8_spin 6 (some .int) p s m args meth c) (hK : va_K D vwCl [(cy, .int)] s) (hA : ∀ q, s.heap.size ≤ q → A q) (n : Nat) (σ : MS) (x1 : Int32) (x2 : Int32) (x3 : Int32) {H : Heap} {locs : List Loc} {ls : Array Slot} (hB : mB D ad cy A s.heap σ H locs) (hl : lv_has ls 6 [(0, .ref (ad 0)), (1, .int x1), (2, .int x2), (3, .int x3)]) (hf : fm_spin n σ x1 x2 x3 = some (r0, σ0)) : W p l e rm_spin s m args below meth c H locs 0 0 (MQ below (mQi D ad cy A r0 σ0) args s 0 0 A) (F0 m 0 ls []) := by
  obtain ⟨hx, hb, hml, hown, hts, hr, hlocks⟩ := id hc
  unfold fm_spin at hf
  refine lv_aload_n hx hb dX8_spin_0 rfl (lv_at hl 0 rfl) ?_
  refine lv_iload_n hx hb dX8_spin_1 rfl (lv_at hl 1 rfl) ?_
  obtain ⟨r1, σ2, hkr1, hf⟩ := bd_e hf
  refine rm_calliV (av := [.int x1]) (rest := []) hx hb hml hown hts hl.1 hK hA hB (cm_isPlate l D ad cy n σ x1 hkr1) (kw_isPlate hts ⟨Nat.le_of_ble_eq_true rfl, Nat.le_of_ble_eq_true rfl⟩) rfl rfl (lv_room (Nat.le_of_ble_eq_true rfl)) dX8_spin_2 (Nat.le_refl _) (Nat.le_refl _) (fun H locs hB => ?_)
  refine lv_if_eq (tgt := 15) hx hb dX8_spin_5 (by decide) (fun c3 => ?_) (fun c3 => ?_)
  · have hf := it_t hf c3
    refine lv_aload_n hx hb dX8_spin_15 rfl (lv_at hl 0 rfl) ?_
    refine lv_iconst (v := (-1)) hx hb dX8_spin_16 (by decide) ?_
    obtain ⟨r4, σ5, hkr4, hf⟩ := bd_e hf
    refine rm_calliV (av := [.int (-1)]) (rest := []) hx hb hml hown hts hl.1 hK hA hB (cm_no l D ad cy n σ2 (-1) hkr4) (kw_no hts ⟨Nat.le_of_ble_eq_true rfl, Nat.le_of_ble_eq_true rfl⟩) rfl rfl (lv_room (Nat.le_of_ble_eq_true rfl)) dX8_spin_17 (Nat.le_refl _) (Nat.le_refl _) (fun H locs hB => ?_)
    obtain ⟨rfl, rfl⟩ := so_e hf
    exact rm_iret hx hb hr hlocks hK hB dX8_spin_20
  · have hf := it_f hf c3
    refine lv_iload_n hx hb dX8_spin_8 rfl (lv_at hl 3 rfl) ?_
    obtain ⟨r6, σ7, hkr6, hf⟩ := bd_e hf
    refine rm_calliS (av := [.int x3]) (rest := []) hx hb hml hown hts hl.1 hK hA hB (cm_isFloor l D ad cy n σ2 x3 hkr6) (kw_isFloor hts ⟨Nat.le_of_ble_eq_true rfl, Nat.le_of_ble_eq_true rfl⟩) rfl rfl (lv_room (Nat.le_of_ble_eq_true rfl)) dX8_spin_9 (Nat.le_refl _) (Nat.le_refl _) (fun H locs hB => ?_)
    refine lv_if_ne (tgt := 21) hx hb dX8_spin_12 (by decide) (fun c8 => ?_) (fun c8 => ?_)
    · have hf := it_f hf c8
      refine lv_iload_n hx hb dX8_spin_21 rfl (lv_at hl 2 rfl) ?_
      refine lv_iconst (v := 0) hx hb dX8_spin_22 (by decide) ?_
      refine lv_sipush (v := 9000) hx hb dX8_spin_23 (by decide) ?_
      obtain ⟨r9, σ10, hkr9, hf⟩ := bd_e hf
      refine rm_calliS (av := [.int x2, .int 0, .int 9000]) (rest := []) hx hb hml hown hts hl.1 hK hA hB (cm_bound l D ad cy n σ7 x2 0 9000 hkr9) (kw_bound hts ⟨Nat.le_of_ble_eq_true rfl, Nat.le_of_ble_eq_true rfl⟩) rfl rfl (lv_room (Nat.le_of_ble_eq_true rfl)) dX8_spin_26 (Nat.le_refl _) (Nat.le_refl _) (fun H locs hB => ?_)
      refine lv_istore (lv' := [(4, .int r9), (0, .ref (ad 0)), (1, .int x1), (2, .int x2), (3, .int x3)]) hx hb dX8_spin_29 hl (by decide) rfl (fun ls hl => ?_)
      refine lv_iload hx hb dX8_spin_31 (lv_at hl 0 rfl) ?_
      refine lv_if_eq (tgt := 43) hx hb dX8_spin_33 (by decide) (fun c11 => ?_) (fun c11 => ?_)
      · have hf := it_t hf c11
        refine lv_aload_n hx hb dX8_spin_43 rfl (lv_at hl 1 rfl) ?_
        refine lv_iconst (v := 1) hx hb dX8_spin_44 (by decide) ?_
        refine rm_puti hx hb hts inM hown hK hB 38 (Nat.le_of_ble_eq_true rfl) qf_253 (ms_38 _ _ _) rfl pd_38 rfl rfl dX8_spin_45 (fun σ12 eσ12 H locs hB => ?_)
        have hf := sq_e hf σ12 eσ12
        refine lv_aload_n hx hb dX8_spin_48 rfl (lv_at hl 1 rfl) ?_
        refine lv_iload_n hx hb dX8_spin_49 rfl (lv_at hl 2 rfl) ?_
        refine rm_puti hx hb hts inM hown hK hB 39 (Nat.le_of_ble_eq_true rfl) qf_250 (ms_39 _ _ _) rfl pd_39 rfl rfl dX8_spin_50 (fun σ13 eσ13 H locs hB => ?_)
        have hf := sq_e hf σ13 eσ13
        refine lv_aload_n hx hb dX8_spin_53 rfl (lv_at hl 1 rfl) ?_
        refine lv_iload_n hx hb dX8_spin_54 rfl (lv_at hl 3 rfl) ?_
        refine rm_puti hx hb hts inM hown hK hB 40 (Nat.le_of_ble_eq_true rfl) qf_247 (ms_40 _ _ _) rfl pd_40 rfl rfl dX8_spin_55 (fun σ14 eσ14 H locs hB => ?_)
        have hf := sq_e hf σ14 eσ14
        refine lv_aload_n hx hb dX8_spin_58 rfl (lv_at hl 1 rfl) ?_
        refine lv_iload_n hx hb dX8_spin_59 rfl (lv_at hl 4 rfl) ?_
        refine rm_puti hx hb hts inM hown hK hB 41 (Nat.le_of_ble_eq_true rfl) qf_256 (ms_41 _ _ _) rfl pd_41 rfl rfl dX8_spin_60 (fun σ15 eσ15 H locs hB => ?_)
        have hf := sq_e hf σ15 eσ15
        refine lv_aload_n hx hb dX8_spin_63 rfl (lv_at hl 1 rfl) ?_
        refine lv_iload_n hx hb dX8_spin_64 rfl (lv_at hl 3 rfl) ?_
        refine rm_puti hx hb hts inM hown hK hB 44 (Nat.le_of_ble_eq_true rfl) qf_259 (ms_44 _ _ _) rfl pd_44 rfl rfl dX8_spin_65 (fun σ16 eσ16 H locs hB => ?_)
        have hf := sq_e hf σ16 eσ16
        refine lv_aload_n hx hb dX8_spin_68 rfl (lv_at hl 1 rfl) ?_
        refine lv_iconst (v := 0) hx hb dX8_spin_69 (by decide) ?_
        refine rm_puti hx hb hts inM hown hK hB 42 (Nat.le_of_ble_eq_true rfl) qf_241 (ms_42 _ _ _) rfl pd_42 rfl rfl dX8_spin_70 (fun σ17 eσ17 H locs hB => ?_)
        have hf := sq_e hf σ17 eσ17
        refine lv_aload_n hx hb dX8_spin_73 rfl (lv_at hl 1 rfl) ?_
        refine lv_iconst (v := 0) hx hb dX8_spin_74 (by decide) ?_
        refine rm_puti hx hb hts inM hown hK hB 43 (Nat.le_of_ble_eq_true rfl) qf_262 (ms_43 _ _ _) rfl pd_43 rfl rfl dX8_spin_75 (fun σ18 eσ18 H locs hB => ?_)
        have hf := sq_e hf σ18 eσ18
        refine lv_aload_n hx hb dX8_spin_78 rfl (lv_at hl 1 rfl) ?_
        refine lv_lconst (v := 0) hx hb dX8_spin_79 (by decide) ?_
        refine rm_putl hx hb hts inM hown hK hB 46 (Nat.le_of_ble_eq_true rfl) qf_265 (ms_46 _ _ _) rfl pd_46 dX8_spin_80 (fun σ19 eσ19 H locs hB => ?_)
        have hf := sq_e hf σ19 eσ19
        refine lv_aload_n hx hb dX8_spin_83 rfl (lv_at hl 1 rfl) ?_
        refine lv_iconst (v := 0) hx hb dX8_spin_84 (by decide) ?_
        refine rm_puti hx hb hts inM hown hK hB 45 (Nat.le_of_ble_eq_true rfl) qf_244 (ms_45 _ _ _) rfl pd_45 rfl rfl dX8_spin_85 (fun σ20 eσ20 H locs hB => ?_)
        have hf := sq_e hf σ20 eσ20
        refine lv_iconst (v := 0) hx hb dX8_spin_88 (by decide) ?_
        refine lv_topi (fun y21 ey21 => ?_)
        have hf := sq_e hf y21 ey21
        refine lv_istore (lv' := [(5, .int y21), (4, .int r9), (0, .ref (ad 0)), (1, .int x1), (2, .int x2), (3, .int x3)]) hx hb dX8_spin_89 hl (by decide) rfl (fun ls hl => ?_)
        exact tlm_spin_91 hc hK hA n n σ20 x1 x2 y21 _ _ _ hB (lv_sub hl [2, 3, 4, 0] rfl) hf
      · have hf := it_f hf c11
        refine lv_aload_n hx hb dX8_spin_36 rfl (lv_at hl 1 rfl) ?_
        refine lv_iload hx hb dX8_spin_37 (lv_at hl 0 rfl) ?_
        obtain ⟨r22, σ23, hkr22, hf⟩ := bd_e hf
        refine rm_calliV (av := [.int r9]) (rest := []) hx hb hml hown hts hl.1 hK hA hB (cm_no l D ad cy n σ10 r9 hkr22) (kw_no hts ⟨Nat.le_of_ble_eq_true rfl, Nat.le_of_ble_eq_true rfl⟩) rfl rfl (lv_room (Nat.le_of_ble_eq_true rfl)) dX8_spin_39 (Nat.le_refl _) (Nat.le_refl _) (fun H locs hB => ?_)
        obtain ⟨rfl, rfl⟩ := so_e hf
        exact rm_iret hx hb hr hlocks hK hB dX8_spin_42
    · have hf := it_t hf c8
      refine lv_aload_n hx hb dX8_spin_15 rfl (lv_at hl 0 rfl) ?_
      refine lv_iconst (v := (-1)) hx hb dX8_spin_16 (by decide) ?_
      obtain ⟨r24, σ25, hkr24, hf⟩ := bd_e hf
      refine rm_calliV (av := [.int (-1)]) (rest := []) hx hb hml hown hts hl.1 hK hA hB (cm_no l D ad cy n σ7 (-1) hkr24) (kw_no hts ⟨Nat.le_of_ble_eq_true rfl, Nat.le_of_ble_eq_true rfl⟩) rfl rfl (lv_room (Nat.le_of_ble_eq_true rfl)) dX8_spin_17 (Nat.le_refl _) (Nat.le_refl _) (fun H locs hB => ?_)
      obtain ⟨rfl, rfl⟩ := so_e hf
      exact rm_iret hx hb hr hlocks hK hB dX8_spin_20
theorem cm_spin (l : Launch) (D : va_G) (ad : Nat → Nat) (cy : ClassId) (n : Nat) (σ : MS) (x1 : Int32) (x2 : Int32) (x3 : Int32) {r0 : Int32} {σ0 : MS} (hf : fm_spin n σ x1 x2 x3 = some (r0, σ0)) : mMi l yX8_spin wn_spin rm_spin D ad cy [.ref (ad 0), .int x1, .int x2, .int x3] σ r0 σ0 :=
  rm_meti (ret := (some .int)) (by decide) rfl (Nat.le_of_ble_eq_true rfl) (fun p e s m below meth c A ls hc hK hA hB hl => tbm_spin_0 hc hK hA n σ x1 x2 x3 hB hl hf)
/-! tick -/
abbrev rm_tick : Room := { frames := 5, cells := 0, slots := 0, locals := 125 }
abbrev wn_tick : List Cond := .code yX8_tick cX8_tick 5 (some .int) :: wsM
def bm_tick_109 (n : Nat) (K35 : MS → Int32 → Int32 → Option (Int32 × MS)) (K109 : MS → Int32 → Int32 → Int32 → Option (Int32 × MS)) (σ : MS) (x1 : Int32) (x3 : Int32) (x4 : Int32) : Option (Int32 × MS) := if ((σ.1 0 21) ≤ x4) then (sq (mp σ 0 40 (σ.1 0 26)) (fun σ2 => sq (mp σ2 0 42 (σ2.1 0 29)) (fun σ3 => bd (fm_keepsTenth n σ3) (fun _ σ5 => sq (x3 + 1 : Int32) (fun y6 => K35 σ5 x1 y6))))) else (ck (ib x4 9) (sq ((σ.1 13 (Int32.toNatClampNeg x4)) : Int32) (fun y8 => ck (ib x4 9) (sq ((σ.1 18 (Int32.toNatClampNeg x4)) : Int32) (fun y10 => ck (ib x4 9) (sq (mp σ 13 (Int32.toNatClampNeg x4) (y8 + y10)) (fun σ12 => sq (x4 + 1 : Int32) (fun y13 => K109 σ12 x1 x3 y13))))))))
set_option maxRecDepth 100000 in
set_option maxHeartbeats 4000000 in
theorem tbm_tick_109 {p : Program} {l : Launch} {e : Env} {s : State} {m : MethodId} {args : Array Value} {below : List Frame} {meth : Method} {c : Code} {D : va_G} {A : Nat → Prop} {ad : Nat → Nat} {cy : ClassId} {r0 : Int32} {σ0 : MS} (hc : cxB RX8 wsM cX8_tick 5 (some .int) p s m args meth c) (hK : va_K D vwCl [(cy, .int)] s) (hA : ∀ q, s.heap.size ≤ q → A q) (n : Nat) (K35 : MS → Int32 → Int32 → Option (Int32 × MS)) (hK35 : ∀ (σ : MS) (x1 : Int32) (x3 : Int32) (H : Heap) (locs : List Loc) (ls : Array Slot), mB D ad cy A s.heap σ H locs → lv_has ls 5 [(0, .ref (ad 0)), (1, .int x1), (3, .int x3)] → K35 σ x1 x3 = some (r0, σ0) → W p l e rm_tick s m args below meth c H locs 0 0 (MQ below (mQi D ad cy A r0 σ0) args s 0 0 A) (F0 m 35 ls [])) (K109 : MS → Int32 → Int32 → Int32 → Option (Int32 × MS)) (hK109 : ∀ (σ : MS) (x1 : Int32) (x3 : Int32) (x4 : Int32) (H : Heap) (locs : List Loc) (ls : Array Slot), mB D ad cy A s.heap σ H locs → lv_has ls 5 [(0, .ref (ad 0)), (1, .int x1), (3, .int x3), (4, .int x4)] → K109 σ x1 x3 x4 = some (r0, σ0) → W p l e rm_tick s m args below meth c H locs 0 0 (MQ below (mQi D ad cy A r0 σ0) args s 0 0 A) (F0 m 109 ls [])) (σ : MS) (x1 : Int32) (x3 : Int32) (x4 : Int32) {H : Heap} {locs : List Loc} {ls : Array Slot} (hB : mB D ad cy A s.heap σ H locs) (hl : lv_has ls 5 [(0, .ref (ad 0)), (1, .int x1), (3, .int x3), (4, .int x4)]) (hf : bm_tick_109 n K35 K109 σ x1 x3 x4 = some (r0, σ0)) : W p l e rm_tick s m args below meth c H locs 0 0 (MQ below (mQi D ad cy A r0 σ0) args s 0 0 A) (F0 m 109 ls []) := by
  obtain ⟨hx, hb, hml, hown, hts, hr, hlocks⟩ := id hc
  unfold bm_tick_109 at hf
  refine lv_iload hx hb dX8_tick_109 (lv_at hl 3 rfl) ?_
  refine lv_aload_n hx hb dX8_tick_111 rfl (lv_at hl 0 rfl) ?_
  refine rm_get hx hb hts inM hown hK hB 21 (Nat.le_of_ble_eq_true rfl) qf_155 rfl dX8_tick_112 ?_
  refine lv_icmp_ge (tgt := 141) hx hb dX8_tick_115 (by decide) (fun c1 => ?_) (fun c1 => ?_)
  · have hf := it_t hf c1
    refine lv_aload_n hx hb dX8_tick_141 rfl (lv_at hl 0 rfl) ?_
    refine lv_aload_n hx hb dX8_tick_142 rfl (lv_at hl 0 rfl) ?_
    refine rm_get hx hb hts inM hown hK hB 26 (Nat.le_of_ble_eq_true rfl) qf_187 rfl dX8_tick_143 ?_
    refine rm_puti hx hb hts inM hown hK hB 40 (Nat.le_of_ble_eq_true rfl) qf_247 (ms_40 _ _ _) rfl pd_40 rfl rfl dX8_tick_146 (fun σ2 eσ2 H locs hB => ?_)
    have hf := sq_e hf σ2 eσ2
    refine lv_aload_n hx hb dX8_tick_149 rfl (lv_at hl 0 rfl) ?_
    refine lv_aload_n hx hb dX8_tick_150 rfl (lv_at hl 0 rfl) ?_
    refine rm_get hx hb hts inM hown hK hB 29 (Nat.le_of_ble_eq_true rfl) qf_203 rfl dX8_tick_151 ?_
    refine rm_puti hx hb hts inM hown hK hB 42 (Nat.le_of_ble_eq_true rfl) qf_241 (ms_42 _ _ _) rfl pd_42 rfl rfl dX8_tick_154 (fun σ3 eσ3 H locs hB => ?_)
    have hf := sq_e hf σ3 eσ3
    refine lv_aload_n hx hb dX8_tick_157 rfl (lv_at hl 0 rfl) ?_
    obtain ⟨r4, σ5, hkr4, hf⟩ := bd_e hf
    refine rm_callvV (av := []) (rest := []) hx hb hml hown hts hl.1 hK hA hB (cm_keepsTenth l D ad cy n σ3 hkr4) (kw_keepsTenth hts ⟨Nat.le_of_ble_eq_true rfl, Nat.le_of_ble_eq_true rfl⟩) rfl rfl (lv_room (Nat.le_of_ble_eq_true rfl)) dX8_tick_158 (Nat.le_refl _) (Nat.le_refl _) (fun H locs hB => ?_)
    obtain ⟨y6, ey6⟩ : ∃ z : Int32, z = x3 + 1 := ⟨_, rfl⟩
    have hf := sq_e hf y6 ey6
    refine lv_iinc (v := y6) (lv' := [(3, .int y6), (0, .ref (ad 0)), (1, .int x1), (4, .int x4)]) hx hb dX8_tick_161 hl (k := 2) rfl (by rw [ey6]; rfl) (by decide) rfl (fun ls hl => ?_)
    refine lv_goto (tgt := 35) hx hb dX8_tick_164 (by decide) ?_
    exact hK35 σ5 x1 y6 _ _ _ hB (lv_sub hl [1, 2, 0] rfl) hf
  · have hf := it_f hf c1
    refine lv_aload_n hx hb dX8_tick_118 rfl (lv_at hl 0 rfl) ?_
    refine rm_get hx hb hts inM hown hK hB 16 (Nat.le_of_ble_eq_true rfl) qf_50 rfl dX8_tick_119 ?_
    refine lv_iload hx hb dX8_tick_122 (lv_at hl 3 rfl) ?_
    refine lv_dup2_11 hx hb dX8_tick_124 rfl rfl ?_
    obtain ⟨k7, hf⟩ := ck_e hf
    refine rm_ald hx hb hK hB 13 rfl k7 dX8_tick_125 ?_
    refine lv_topi (fun y8 ey8 => ?_)
    have hf := sq_e hf y8 ey8
    refine lv_aload_n hx hb dX8_tick_126 rfl (lv_at hl 0 rfl) ?_
    refine rm_get hx hb hts inM hown hK hB 33 (Nat.le_of_ble_eq_true rfl) qf_65 rfl dX8_tick_127 ?_
    refine lv_iload hx hb dX8_tick_130 (lv_at hl 3 rfl) ?_
    obtain ⟨k9, hf⟩ := ck_e hf
    refine rm_ald hx hb hK hB 18 rfl k9 dX8_tick_132 ?_
    refine lv_topi (fun y10 ey10 => ?_)
    have hf := sq_e hf y10 ey10
    refine lv_iadd hx hb dX8_tick_133 ?_
    obtain ⟨k11, hf⟩ := ck_e hf
    refine rm_ast hx hb hK hB 13 rfl (msa_13 _ _ _) k11 dX8_tick_134 (fun σ12 eσ12 H locs hB => ?_)
    have hf := sq_e hf σ12 eσ12
    obtain ⟨y13, ey13⟩ : ∃ z : Int32, z = x4 + 1 := ⟨_, rfl⟩
    have hf := sq_e hf y13 ey13
    refine lv_iinc (v := y13) (lv' := [(4, .int y13), (0, .ref (ad 0)), (1, .int x1), (3, .int x3)]) hx hb dX8_tick_135 hl (k := 3) rfl (by rw [ey13]; rfl) (by decide) rfl (fun ls hl => ?_)
    refine lv_goto (tgt := 109) hx hb dX8_tick_138 (by decide) ?_
    exact hK109 σ12 x1 x3 y13 _ _ _ hB (lv_sub hl [1, 2, 3, 0] rfl) hf
def lm_tick_109 (n : Nat) (K35 : MS → Int32 → Int32 → Option (Int32 × MS)) : Nat → MS → Int32 → Int32 → Int32 → Option (Int32 × MS)
  | 0 => fun _ _ _ _ => none
  | k + 1 => bm_tick_109 n K35 (lm_tick_109 n K35 k)
theorem tlm_tick_109 {p : Program} {l : Launch} {e : Env} {s : State} {m : MethodId} {args : Array Value} {below : List Frame} {meth : Method} {c : Code} {D : va_G} {A : Nat → Prop} {ad : Nat → Nat} {cy : ClassId} {r0 : Int32} {σ0 : MS} (hc : cxB RX8 wsM cX8_tick 5 (some .int) p s m args meth c) (hK : va_K D vwCl [(cy, .int)] s) (hA : ∀ q, s.heap.size ≤ q → A q) (n : Nat) (K35 : MS → Int32 → Int32 → Option (Int32 × MS)) (hK35 : ∀ (σ : MS) (x1 : Int32) (x3 : Int32) (H : Heap) (locs : List Loc) (ls : Array Slot), mB D ad cy A s.heap σ H locs → lv_has ls 5 [(0, .ref (ad 0)), (1, .int x1), (3, .int x3)] → K35 σ x1 x3 = some (r0, σ0) → W p l e rm_tick s m args below meth c H locs 0 0 (MQ below (mQi D ad cy A r0 σ0) args s 0 0 A) (F0 m 35 ls [])) : ∀ (k : Nat) (σ : MS) (x1 : Int32) (x3 : Int32) (x4 : Int32) (H : Heap) (locs : List Loc) (ls : Array Slot), mB D ad cy A s.heap σ H locs → lv_has ls 5 [(0, .ref (ad 0)), (1, .int x1), (3, .int x3), (4, .int x4)] → lm_tick_109 n K35 k σ x1 x3 x4 = some (r0, σ0) → W p l e rm_tick s m args below meth c H locs 0 0 (MQ below (mQi D ad cy A r0 σ0) args s 0 0 A) (F0 m 109 ls []) := by
  intro k
  induction k with
  | zero =>
    intro σ x1 x3 x4 H locs ls hB hl hf
    have hf : (none : Option (Int32 × MS)) = some (r0, σ0) := hf
    cases hf
  | succ k ih =>
    intro σ x1 x3 x4 H locs ls hB hl hf
    exact tbm_tick_109 hc hK hA n K35 hK35 (lm_tick_109 n K35 k) ih σ x1 x3 x4 hB hl hf
def bm_tick_35 (n : Nat) (K35 : MS → Int32 → Int32 → Option (Int32 × MS)) (σ : MS) (x1 : Int32) (x3 : Int32) : Option (Int32 × MS) := if (x1 ≤ x3) then (some ((σ.1 0 43), σ)) else (if ((σ.1 0 43) = 0) then (bd (fm_all n σ) (fun r3 σ4 => bd (fm_begins n σ4 (σ.1 0 39) (σ.1 0 40) (σ.1 0 41) r3) (fun _ σ6 => sq (mp σ6 0 29 (σ6.1 0 42)) (fun σ7 => bd (fm_toneOf n σ7 (σ7.1 0 39) (σ7.1 0 40)) (fun r8 σ9 => sq (mq σ9 46 ((σ7.2 46) + (Int32.toInt64 r8))) (fun σ10 => bd (fm_goes n σ10 1) (fun r11 σ12 => sq (mp σ12 0 43 r11) (fun σ13 => sq (0 : Int32) (fun y14 => lm_tick_109 n K35 n σ13 x1 x3 y14))))))))) else (some ((σ.1 0 43), σ)))
set_option maxRecDepth 100000 in
set_option maxHeartbeats 4000000 in
theorem tbm_tick_35 {p : Program} {l : Launch} {e : Env} {s : State} {m : MethodId} {args : Array Value} {below : List Frame} {meth : Method} {c : Code} {D : va_G} {A : Nat → Prop} {ad : Nat → Nat} {cy : ClassId} {r0 : Int32} {σ0 : MS} (hc : cxB RX8 wsM cX8_tick 5 (some .int) p s m args meth c) (hK : va_K D vwCl [(cy, .int)] s) (hA : ∀ q, s.heap.size ≤ q → A q) (n : Nat) (K35 : MS → Int32 → Int32 → Option (Int32 × MS)) (hK35 : ∀ (σ : MS) (x1 : Int32) (x3 : Int32) (H : Heap) (locs : List Loc) (ls : Array Slot), mB D ad cy A s.heap σ H locs → lv_has ls 5 [(0, .ref (ad 0)), (1, .int x1), (3, .int x3)] → K35 σ x1 x3 = some (r0, σ0) → W p l e rm_tick s m args below meth c H locs 0 0 (MQ below (mQi D ad cy A r0 σ0) args s 0 0 A) (F0 m 35 ls [])) (σ : MS) (x1 : Int32) (x3 : Int32) {H : Heap} {locs : List Loc} {ls : Array Slot} (hB : mB D ad cy A s.heap σ H locs) (hl : lv_has ls 5 [(0, .ref (ad 0)), (1, .int x1), (3, .int x3)]) (hf : bm_tick_35 n K35 σ x1 x3 = some (r0, σ0)) : W p l e rm_tick s m args below meth c H locs 0 0 (MQ below (mQi D ad cy A r0 σ0) args s 0 0 A) (F0 m 35 ls []) := by
  obtain ⟨hx, hb, hml, hown, hts, hr, hlocks⟩ := id hc
  unfold bm_tick_35 at hf
  refine lv_iload_n hx hb dX8_tick_35 rfl (lv_at hl 2 rfl) ?_
  refine lv_iload_n hx hb dX8_tick_36 rfl (lv_at hl 1 rfl) ?_
  refine lv_icmp_ge (tgt := 167) hx hb dX8_tick_37 (by decide) (fun c1 => ?_) (fun c1 => ?_)
  · have hf := it_t hf c1
    refine lv_aload_n hx hb dX8_tick_167 rfl (lv_at hl 0 rfl) ?_
    refine rm_get hx hb hts inM hown hK hB 43 (Nat.le_of_ble_eq_true rfl) qf_262 rfl dX8_tick_168 ?_
    obtain ⟨rfl, rfl⟩ := so_e hf
    exact rm_iret hx hb hr hlocks hK hB dX8_tick_171
  · have hf := it_f hf c1
    refine lv_aload_n hx hb dX8_tick_40 rfl (lv_at hl 0 rfl) ?_
    refine rm_get hx hb hts inM hown hK hB 43 (Nat.le_of_ble_eq_true rfl) qf_262 rfl dX8_tick_41 ?_
    refine lv_if_ne (tgt := 167) hx hb dX8_tick_44 (by decide) (fun c2 => ?_) (fun c2 => ?_)
    · have hf := it_f hf c2
      refine lv_aload_n hx hb dX8_tick_167 rfl (lv_at hl 0 rfl) ?_
      refine rm_get hx hb hts inM hown hK hB 43 (Nat.le_of_ble_eq_true rfl) qf_262 rfl dX8_tick_168 ?_
      obtain ⟨rfl, rfl⟩ := so_e hf
      exact rm_iret hx hb hr hlocks hK hB dX8_tick_171
    · have hf := it_t hf c2
      refine lv_aload_n hx hb dX8_tick_47 rfl (lv_at hl 0 rfl) ?_
      refine lv_aload_n hx hb dX8_tick_48 rfl (lv_at hl 0 rfl) ?_
      refine rm_get hx hb hts inM hown hK hB 39 (Nat.le_of_ble_eq_true rfl) qf_250 rfl dX8_tick_49 ?_
      refine lv_aload_n hx hb dX8_tick_52 rfl (lv_at hl 0 rfl) ?_
      refine rm_get hx hb hts inM hown hK hB 40 (Nat.le_of_ble_eq_true rfl) qf_247 rfl dX8_tick_53 ?_
      refine lv_aload_n hx hb dX8_tick_56 rfl (lv_at hl 0 rfl) ?_
      refine rm_get hx hb hts inM hown hK hB 41 (Nat.le_of_ble_eq_true rfl) qf_256 rfl dX8_tick_57 ?_
      refine lv_aload_n hx hb dX8_tick_60 rfl (lv_at hl 0 rfl) ?_
      obtain ⟨r3, σ4, hkr3, hf⟩ := bd_e hf
      refine rm_calliV (av := []) (rest := [.int (σ.1 0 41), .int (σ.1 0 40), .int (σ.1 0 39), .ref (ad 0)]) hx hb hml hown hts hl.1 hK hA hB (cm_all l D ad cy n σ hkr3) (kw_all hts ⟨Nat.le_of_ble_eq_true rfl, Nat.le_of_ble_eq_true rfl⟩) rfl rfl (lv_room (Nat.le_of_ble_eq_true rfl)) dX8_tick_61 (Nat.le_refl _) (Nat.le_refl _) (fun H locs hB => ?_)
      obtain ⟨r5, σ6, hkr5, hf⟩ := bd_e hf
      refine rm_callvV (av := [.int (σ.1 0 39), .int (σ.1 0 40), .int (σ.1 0 41), .int r3]) (rest := []) hx hb hml hown hts hl.1 hK hA hB (cm_begins l D ad cy n σ4 (σ.1 0 39) (σ.1 0 40) (σ.1 0 41) r3 hkr5) (kw_begins hts ⟨Nat.le_of_ble_eq_true rfl, Nat.le_of_ble_eq_true rfl⟩) rfl rfl (lv_room (Nat.le_of_ble_eq_true rfl)) dX8_tick_64 (Nat.le_refl _) (Nat.le_refl _) (fun H locs hB => ?_)
      refine lv_aload_n hx hb dX8_tick_67 rfl (lv_at hl 0 rfl) ?_
      refine lv_aload_n hx hb dX8_tick_68 rfl (lv_at hl 0 rfl) ?_
      refine rm_get hx hb hts inM hown hK hB 42 (Nat.le_of_ble_eq_true rfl) qf_241 rfl dX8_tick_69 ?_
      refine rm_puti hx hb hts inM hown hK hB 29 (Nat.le_of_ble_eq_true rfl) qf_203 (ms_29 _ _ _) rfl pd_29 rfl rfl dX8_tick_72 (fun σ7 eσ7 H locs hB => ?_)
      have hf := sq_e hf σ7 eσ7
      refine lv_aload_n hx hb dX8_tick_75 rfl (lv_at hl 0 rfl) ?_
      refine lv_dup hx hb dX8_tick_76 rfl ?_
      refine rm_get hx hb hts inM hown hK hB 46 (Nat.le_of_ble_eq_true rfl) qf_265 rfl dX8_tick_77 ?_
      refine lv_aload_n hx hb dX8_tick_80 rfl (lv_at hl 0 rfl) ?_
      refine lv_aload_n hx hb dX8_tick_81 rfl (lv_at hl 0 rfl) ?_
      refine rm_get hx hb hts inM hown hK hB 39 (Nat.le_of_ble_eq_true rfl) qf_250 rfl dX8_tick_82 ?_
      refine lv_aload_n hx hb dX8_tick_85 rfl (lv_at hl 0 rfl) ?_
      refine rm_get hx hb hts inM hown hK hB 40 (Nat.le_of_ble_eq_true rfl) qf_247 rfl dX8_tick_86 ?_
      obtain ⟨r8, σ9, hkr8, hf⟩ := bd_e hf
      refine rm_calliV (av := [.int (σ7.1 0 39), .int (σ7.1 0 40)]) (rest := [.long (σ7.2 46), .ref (ad 0)]) hx hb hml hown hts hl.1 hK hA hB (cm_toneOf l D ad cy n σ7 (σ7.1 0 39) (σ7.1 0 40) hkr8) (kw_toneOf hts ⟨Nat.le_of_ble_eq_true rfl, Nat.le_of_ble_eq_true rfl⟩) rfl rfl (lv_room (Nat.le_of_ble_eq_true rfl)) dX8_tick_89 (Nat.le_refl _) (Nat.le_refl _) (fun H locs hB => ?_)
      refine lv_i2l hx hb dX8_tick_92 rfl ?_
      refine lv_ladd hx hb dX8_tick_93 ?_
      refine rm_putl hx hb hts inM hown hK hB 46 (Nat.le_of_ble_eq_true rfl) qf_265 (ms_46 _ _ _) rfl pd_46 dX8_tick_94 (fun σ10 eσ10 H locs hB => ?_)
      have hf := sq_e hf σ10 eσ10
      refine lv_aload_n hx hb dX8_tick_97 rfl (lv_at hl 0 rfl) ?_
      refine lv_aload_n hx hb dX8_tick_98 rfl (lv_at hl 0 rfl) ?_
      refine lv_iconst (v := 1) hx hb dX8_tick_99 (by decide) ?_
      obtain ⟨r11, σ12, hkr11, hf⟩ := bd_e hf
      refine rm_calliV (av := [.int 1]) (rest := [.ref (ad 0)]) hx hb hml hown hts hl.1 hK hA hB (cm_goes l D ad cy n σ10 1 hkr11) (kw_goes hts ⟨Nat.le_of_ble_eq_true rfl, Nat.le_of_ble_eq_true rfl⟩) rfl rfl (lv_room (Nat.le_of_ble_eq_true rfl)) dX8_tick_100 (Nat.le_refl _) (Nat.le_refl _) (fun H locs hB => ?_)
      refine rm_puti hx hb hts inM hown hK hB 43 (Nat.le_of_ble_eq_true rfl) qf_262 (ms_43 _ _ _) rfl pd_43 rfl rfl dX8_tick_103 (fun σ13 eσ13 H locs hB => ?_)
      have hf := sq_e hf σ13 eσ13
      refine lv_iconst (v := 0) hx hb dX8_tick_106 (by decide) ?_
      refine lv_topi (fun y14 ey14 => ?_)
      have hf := sq_e hf y14 ey14
      refine lv_istore (lv' := [(4, .int y14), (0, .ref (ad 0)), (1, .int x1), (3, .int x3)]) hx hb dX8_tick_107 hl (by decide) rfl (fun ls hl => ?_)
      exact tlm_tick_109 hc hK hA n K35 hK35 n σ13 x1 x3 y14 _ _ _ hB (lv_sub hl [1, 2, 3, 0] rfl) hf
def lm_tick_35 (n : Nat) : Nat → MS → Int32 → Int32 → Option (Int32 × MS)
  | 0 => fun _ _ _ => none
  | k + 1 => bm_tick_35 n (lm_tick_35 n k)
theorem tlm_tick_35 {p : Program} {l : Launch} {e : Env} {s : State} {m : MethodId} {args : Array Value} {below : List Frame} {meth : Method} {c : Code} {D : va_G} {A : Nat → Prop} {ad : Nat → Nat} {cy : ClassId} {r0 : Int32} {σ0 : MS} (hc : cxB RX8 wsM cX8_tick 5 (some .int) p s m args meth c) (hK : va_K D vwCl [(cy, .int)] s) (hA : ∀ q, s.heap.size ≤ q → A q) (n : Nat) : ∀ (k : Nat) (σ : MS) (x1 : Int32) (x3 : Int32) (H : Heap) (locs : List Loc) (ls : Array Slot), mB D ad cy A s.heap σ H locs → lv_has ls 5 [(0, .ref (ad 0)), (1, .int x1), (3, .int x3)] → lm_tick_35 n k σ x1 x3 = some (r0, σ0) → W p l e rm_tick s m args below meth c H locs 0 0 (MQ below (mQi D ad cy A r0 σ0) args s 0 0 A) (F0 m 35 ls []) := by
  intro k
  induction k with
  | zero =>
    intro σ x1 x3 H locs ls hB hl hf
    have hf : (none : Option (Int32 × MS)) = some (r0, σ0) := hf
    cases hf
  | succ k ih =>
    intro σ x1 x3 H locs ls hB hl hf
    exact tbm_tick_35 hc hK hA n (lm_tick_35 n k) ih σ x1 x3 hB hl hf
def fm_tick (n : Nat) (σ : MS) (x1 : Int32) : Option (Int32 × MS) := if ((σ.1 0 38) = 0) then (bd (fm_no n σ (-3)) (fun r8 σ9 => some (r8, σ9))) else (bd (fm_bound n σ x1 1 999) (fun r2 σ3 => if (r2 = 0) then (sq (0 : Int32) (fun y5 => lm_tick_35 n n σ3 x1 y5)) else (bd (fm_no n σ3 r2) (fun r6 σ7 => some (r6, σ7)))))
set_option maxRecDepth 100000 in
set_option maxHeartbeats 4000000 in
theorem tbm_tick_0 {p : Program} {l : Launch} {e : Env} {s : State} {m : MethodId} {args : Array Value} {below : List Frame} {meth : Method} {c : Code} {D : va_G} {A : Nat → Prop} {ad : Nat → Nat} {cy : ClassId} {r0 : Int32} {σ0 : MS} (hc : cxB RX8 wsM cX8_tick 5 (some .int) p s m args meth c) (hK : va_K D vwCl [(cy, .int)] s) (hA : ∀ q, s.heap.size ≤ q → A q) (n : Nat) (σ : MS) (x1 : Int32) {H : Heap} {locs : List Loc} {ls : Array Slot} (hB : mB D ad cy A s.heap σ H locs) (hl : lv_has ls 5 [(0, .ref (ad 0)), (1, .int x1)]) (hf : fm_tick n σ x1 = some (r0, σ0)) : W p l e rm_tick s m args below meth c H locs 0 0 (MQ below (mQi D ad cy A r0 σ0) args s 0 0 A) (F0 m 0 ls []) := by
  obtain ⟨hx, hb, hml, hown, hts, hr, hlocks⟩ := id hc
  unfold fm_tick at hf
  refine lv_aload_n hx hb dX8_tick_0 rfl (lv_at hl 0 rfl) ?_
  refine rm_get hx hb hts inM hown hK hB 38 (Nat.le_of_ble_eq_true rfl) qf_253 rfl dX8_tick_1 ?_
  refine lv_if_ne (tgt := 14) hx hb dX8_tick_4 (by decide) (fun c1 => ?_) (fun c1 => ?_)
  · have hf := it_f hf c1
    refine lv_iload_n hx hb dX8_tick_14 rfl (lv_at hl 1 rfl) ?_
    refine lv_iconst (v := 1) hx hb dX8_tick_15 (by decide) ?_
    refine lv_sipush (v := 999) hx hb dX8_tick_16 (by decide) ?_
    obtain ⟨r2, σ3, hkr2, hf⟩ := bd_e hf
    refine rm_calliS (av := [.int x1, .int 1, .int 999]) (rest := []) hx hb hml hown hts hl.1 hK hA hB (cm_bound l D ad cy n σ x1 1 999 hkr2) (kw_bound hts ⟨Nat.le_of_ble_eq_true rfl, Nat.le_of_ble_eq_true rfl⟩) rfl rfl (lv_room (Nat.le_of_ble_eq_true rfl)) dX8_tick_19 (Nat.le_refl _) (Nat.le_refl _) (fun H locs hB => ?_)
    refine lv_istore_n (lv' := [(2, .int r2), (0, .ref (ad 0)), (1, .int x1)]) hx hb dX8_tick_22 rfl hl (by decide) rfl (fun ls hl => ?_)
    refine lv_iload_n hx hb dX8_tick_23 rfl (lv_at hl 0 rfl) ?_
    refine lv_if_eq (tgt := 33) hx hb dX8_tick_24 (by decide) (fun c4 => ?_) (fun c4 => ?_)
    · have hf := it_t hf c4
      refine lv_iconst (v := 0) hx hb dX8_tick_33 (by decide) ?_
      refine lv_topi (fun y5 ey5 => ?_)
      have hf := sq_e hf y5 ey5
      refine lv_istore_n (lv' := [(3, .int y5), (2, .int r2), (0, .ref (ad 0)), (1, .int x1)]) hx hb dX8_tick_34 rfl hl (by decide) rfl (fun ls hl => ?_)
      exact tlm_tick_35 hc hK hA n n σ3 x1 y5 _ _ _ hB (lv_sub hl [2, 3, 0] rfl) hf
    · have hf := it_f hf c4
      refine lv_aload_n hx hb dX8_tick_27 rfl (lv_at hl 1 rfl) ?_
      refine lv_iload_n hx hb dX8_tick_28 rfl (lv_at hl 0 rfl) ?_
      obtain ⟨r6, σ7, hkr6, hf⟩ := bd_e hf
      refine rm_calliV (av := [.int r2]) (rest := []) hx hb hml hown hts hl.1 hK hA hB (cm_no l D ad cy n σ3 r2 hkr6) (kw_no hts ⟨Nat.le_of_ble_eq_true rfl, Nat.le_of_ble_eq_true rfl⟩) rfl rfl (lv_room (Nat.le_of_ble_eq_true rfl)) dX8_tick_29 (Nat.le_refl _) (Nat.le_refl _) (fun H locs hB => ?_)
      obtain ⟨rfl, rfl⟩ := so_e hf
      exact rm_iret hx hb hr hlocks hK hB dX8_tick_32
  · have hf := it_t hf c1
    refine lv_aload_n hx hb dX8_tick_7 rfl (lv_at hl 0 rfl) ?_
    refine lv_bipush (v := (-3)) hx hb dX8_tick_8 (by decide) ?_
    obtain ⟨r8, σ9, hkr8, hf⟩ := bd_e hf
    refine rm_calliV (av := [.int (-3)]) (rest := []) hx hb hml hown hts hl.1 hK hA hB (cm_no l D ad cy n σ (-3) hkr8) (kw_no hts ⟨Nat.le_of_ble_eq_true rfl, Nat.le_of_ble_eq_true rfl⟩) rfl rfl (lv_room (Nat.le_of_ble_eq_true rfl)) dX8_tick_10 (Nat.le_refl _) (Nat.le_refl _) (fun H locs hB => ?_)
    obtain ⟨rfl, rfl⟩ := so_e hf
    exact rm_iret hx hb hr hlocks hK hB dX8_tick_13
theorem cm_tick (l : Launch) (D : va_G) (ad : Nat → Nat) (cy : ClassId) (n : Nat) (σ : MS) (x1 : Int32) {r0 : Int32} {σ0 : MS} (hf : fm_tick n σ x1 = some (r0, σ0)) : mMi l yX8_tick wn_tick rm_tick D ad cy [.ref (ad 0), .int x1] σ r0 σ0 :=
  rm_meti (ret := (some .int)) (by decide) rfl (Nat.le_of_ble_eq_true rfl) (fun p e s m below meth c A ls hc hK hA hB hl => tbm_tick_0 hc hK hA n σ x1 hB hl hf)
