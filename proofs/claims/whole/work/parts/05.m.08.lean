/-! bestFor -/
abbrev rm_bestFor : Room := { frames := 7, cells := 0, slots := 0, locals := 169 }
abbrev wn_bestFor : List Cond := .code yX8_bestFor cX8_bestFor 10 (some .int) :: wsM
def bm_bestFor_110 (n : Nat) (K69 : MS → Int32 → Int32 → Int32 → Int32 → Int32 → Int32 → Int32 → Option (Int32 × MS)) (σ : MS) (x1 : Int32) (x2 : Int32) (x3 : Int32) (x5 : Int32) (x6 : Int32) (x7 : Int32) (x8 : Int32) (t0 : Int32) (t1 : Int32) (t2 : Int32) : Option (Int32 × MS) := bd (fm_lastsOf n σ t2 t1 t0) (fun r1 σ2 => if (x6 < r1) then (sq (x8 + 1 : Int32) (fun y4 => K69 σ2 x1 x2 x3 x8 r1 x7 y4)) else (sq (x8 + 1 : Int32) (fun y5 => K69 σ2 x1 x2 x3 x5 x6 x7 y5)))
set_option maxRecDepth 100000 in
set_option maxHeartbeats 4000000 in
theorem tbm_bestFor_110 {p : Program} {l : Launch} {e : Env} {s : State} {m : MethodId} {args : Array Value} {below : List Frame} {meth : Method} {c : Code} {D : va_G} {A : Nat → Prop} {ad : Nat → Nat} {cy : ClassId} {r0 : Int32} {σ0 : MS} (hc : cxB RX8 wsM cX8_bestFor 10 (some .int) p s m args meth c) (hK : va_K D vwCl [(cy, .int)] s) (hA : ∀ q, s.heap.size ≤ q → A q) (n : Nat) (K69 : MS → Int32 → Int32 → Int32 → Int32 → Int32 → Int32 → Int32 → Option (Int32 × MS)) (hK69 : ∀ (σ : MS) (x1 : Int32) (x2 : Int32) (x3 : Int32) (x5 : Int32) (x6 : Int32) (x7 : Int32) (x8 : Int32) (H : Heap) (locs : List Loc) (ls : Array Slot), mB D ad cy A s.heap σ H locs → lv_has ls 10 [(0, .ref (ad 0)), (1, .int x1), (2, .int x2), (3, .int x3), (5, .int x5), (6, .int x6), (7, .int x7), (8, .int x8)] → K69 σ x1 x2 x3 x5 x6 x7 x8 = some (r0, σ0) → W p l e rm_bestFor s m args below meth c H locs 0 0 (MQ below (mQi D ad cy A r0 σ0) args s 0 0 A) (F0 m 69 ls [])) (σ : MS) (x1 : Int32) (x2 : Int32) (x3 : Int32) (x5 : Int32) (x6 : Int32) (x7 : Int32) (x8 : Int32) (t0 : Int32) (t1 : Int32) (t2 : Int32) {H : Heap} {locs : List Loc} {ls : Array Slot} (hB : mB D ad cy A s.heap σ H locs) (hl : lv_has ls 10 [(0, .ref (ad 0)), (1, .int x1), (2, .int x2), (3, .int x3), (5, .int x5), (6, .int x6), (7, .int x7), (8, .int x8)]) (hf : bm_bestFor_110 n K69 σ x1 x2 x3 x5 x6 x7 x8 t0 t1 t2 = some (r0, σ0)) : W p l e rm_bestFor s m args below meth c H locs 0 0 (MQ below (mQi D ad cy A r0 σ0) args s 0 0 A) (F0 m 110 ls [.int t0, .int t1, .int t2, .ref (ad 0)]) := by
  obtain ⟨hx, hb, hml, hown, hts, hr, hlocks⟩ := id hc
  unfold bm_bestFor_110 at hf
  obtain ⟨r1, σ2, hkr1, hf⟩ := bd_e hf
  refine rm_calliV (av := [.int t2, .int t1, .int t0]) (rest := []) hx hb hml hown hts hl.1 hK hA hB (cm_lastsOf l D ad cy n σ t2 t1 t0 hkr1) (kw_lastsOf hts ⟨Nat.le_of_ble_eq_true rfl, Nat.le_of_ble_eq_true rfl⟩) rfl rfl (lv_room (Nat.le_of_ble_eq_true rfl)) dX8_bestFor_110 (Nat.le_refl _) (Nat.le_refl _) (fun H locs hB => ?_)
  refine lv_istore (lv' := [(9, .int r1), (0, .ref (ad 0)), (1, .int x1), (2, .int x2), (3, .int x3), (5, .int x5), (6, .int x6), (7, .int x7), (8, .int x8)]) hx hb dX8_bestFor_113 hl (by decide) rfl (fun ls hl => ?_)
  refine lv_iload hx hb dX8_bestFor_115 (lv_at hl 0 rfl) ?_
  refine lv_iload hx hb dX8_bestFor_117 (lv_at hl 6 rfl) ?_
  refine lv_icmp_gt (tgt := 125) hx hb dX8_bestFor_119 (by decide) (fun c3 => ?_) (fun c3 => ?_)
  · have hf := it_t hf c3
    refine lv_iload hx hb dX8_bestFor_125 (lv_at hl 0 rfl) ?_
    refine lv_istore (lv' := [(6, .int r1), (9, .int r1), (0, .ref (ad 0)), (1, .int x1), (2, .int x2), (3, .int x3), (5, .int x5), (7, .int x7), (8, .int x8)]) hx hb dX8_bestFor_127 hl (by decide) rfl (fun ls hl => ?_)
    refine lv_iload hx hb dX8_bestFor_129 (lv_at hl 8 rfl) ?_
    refine lv_istore (lv' := [(5, .int x8), (6, .int r1), (9, .int r1), (0, .ref (ad 0)), (1, .int x1), (2, .int x2), (3, .int x3), (7, .int x7), (8, .int x8)]) hx hb dX8_bestFor_131 hl (by decide) rfl (fun ls hl => ?_)
    obtain ⟨y4, ey4⟩ : ∃ z : Int32, z = x8 + 1 := ⟨_, rfl⟩
    have hf := sq_e hf y4 ey4
    refine lv_iinc (v := y4) (lv' := [(8, .int y4), (5, .int x8), (6, .int r1), (9, .int r1), (0, .ref (ad 0)), (1, .int x1), (2, .int x2), (3, .int x3), (7, .int x7)]) hx hb dX8_bestFor_133 hl (k := 8) rfl (by rw [ey4]; rfl) (by decide) rfl (fun ls hl => ?_)
    refine lv_goto (tgt := 69) hx hb dX8_bestFor_136 (by decide) ?_
    exact hK69 σ2 x1 x2 x3 x8 r1 x7 y4 _ _ _ hB (lv_sub hl [4, 5, 6, 7, 1, 2, 8, 0] rfl) hf
  · have hf := it_f hf c3
    refine lv_goto (tgt := 133) hx hb dX8_bestFor_122 (by decide) ?_
    obtain ⟨y5, ey5⟩ : ∃ z : Int32, z = x8 + 1 := ⟨_, rfl⟩
    have hf := sq_e hf y5 ey5
    refine lv_iinc (v := y5) (lv' := [(8, .int y5), (9, .int r1), (0, .ref (ad 0)), (1, .int x1), (2, .int x2), (3, .int x3), (5, .int x5), (6, .int x6), (7, .int x7)]) hx hb dX8_bestFor_133 hl (k := 8) rfl (by rw [ey5]; rfl) (by decide) rfl (fun ls hl => ?_)
    refine lv_goto (tgt := 69) hx hb dX8_bestFor_136 (by decide) ?_
    exact hK69 σ2 x1 x2 x3 x5 x6 x7 y5 _ _ _ hB (lv_sub hl [2, 3, 4, 5, 6, 7, 8, 0] rfl) hf
def bm_bestFor_97 (n : Nat) (K69 : MS → Int32 → Int32 → Int32 → Int32 → Int32 → Int32 → Int32 → Option (Int32 × MS)) (σ : MS) (x1 : Int32) (x2 : Int32) (x3 : Int32) (x5 : Int32) (x6 : Int32) (x7 : Int32) (x8 : Int32) : Option (Int32 × MS) := if (x3 = 0) then (bm_bestFor_110 n K69 σ x1 x2 x3 x5 x6 x7 x8 x8 x2 x1) else (bm_bestFor_110 n K69 σ x1 x2 x3 x5 x6 x7 x8 0 x2 x1)
set_option maxRecDepth 100000 in
set_option maxHeartbeats 4000000 in
theorem tbm_bestFor_97 {p : Program} {l : Launch} {e : Env} {s : State} {m : MethodId} {args : Array Value} {below : List Frame} {meth : Method} {c : Code} {D : va_G} {A : Nat → Prop} {ad : Nat → Nat} {cy : ClassId} {r0 : Int32} {σ0 : MS} (hc : cxB RX8 wsM cX8_bestFor 10 (some .int) p s m args meth c) (hK : va_K D vwCl [(cy, .int)] s) (hA : ∀ q, s.heap.size ≤ q → A q) (n : Nat) (K69 : MS → Int32 → Int32 → Int32 → Int32 → Int32 → Int32 → Int32 → Option (Int32 × MS)) (hK69 : ∀ (σ : MS) (x1 : Int32) (x2 : Int32) (x3 : Int32) (x5 : Int32) (x6 : Int32) (x7 : Int32) (x8 : Int32) (H : Heap) (locs : List Loc) (ls : Array Slot), mB D ad cy A s.heap σ H locs → lv_has ls 10 [(0, .ref (ad 0)), (1, .int x1), (2, .int x2), (3, .int x3), (5, .int x5), (6, .int x6), (7, .int x7), (8, .int x8)] → K69 σ x1 x2 x3 x5 x6 x7 x8 = some (r0, σ0) → W p l e rm_bestFor s m args below meth c H locs 0 0 (MQ below (mQi D ad cy A r0 σ0) args s 0 0 A) (F0 m 69 ls [])) (σ : MS) (x1 : Int32) (x2 : Int32) (x3 : Int32) (x5 : Int32) (x6 : Int32) (x7 : Int32) (x8 : Int32) {H : Heap} {locs : List Loc} {ls : Array Slot} (hB : mB D ad cy A s.heap σ H locs) (hl : lv_has ls 10 [(0, .ref (ad 0)), (1, .int x1), (2, .int x2), (3, .int x3), (5, .int x5), (6, .int x6), (7, .int x7), (8, .int x8)]) (hf : bm_bestFor_97 n K69 σ x1 x2 x3 x5 x6 x7 x8 = some (r0, σ0)) : W p l e rm_bestFor s m args below meth c H locs 0 0 (MQ below (mQi D ad cy A r0 σ0) args s 0 0 A) (F0 m 97 ls []) := by
  obtain ⟨hx, hb, hml, hown, hts, hr, hlocks⟩ := id hc
  unfold bm_bestFor_97 at hf
  refine lv_aload_n hx hb dX8_bestFor_97 rfl (lv_at hl 0 rfl) ?_
  refine lv_iload_n hx hb dX8_bestFor_98 rfl (lv_at hl 1 rfl) ?_
  refine lv_iload_n hx hb dX8_bestFor_99 rfl (lv_at hl 2 rfl) ?_
  refine lv_iload_n hx hb dX8_bestFor_100 rfl (lv_at hl 3 rfl) ?_
  refine lv_if_ne (tgt := 109) hx hb dX8_bestFor_101 (by decide) (fun c1 => ?_) (fun c1 => ?_)
  · have hf := it_f hf c1
    refine lv_iconst (v := 0) hx hb dX8_bestFor_109 (by decide) ?_
    exact tbm_bestFor_110 hc hK hA n K69 hK69 σ x1 x2 x3 x5 x6 x7 x8 0 x2 x1 hB (lv_sub hl [0, 1, 2, 3, 4, 5, 6, 7] rfl) hf
  · have hf := it_t hf c1
    refine lv_iload hx hb dX8_bestFor_104 (lv_at hl 7 rfl) ?_
    refine lv_goto (tgt := 110) hx hb dX8_bestFor_106 (by decide) ?_
    exact tbm_bestFor_110 hc hK hA n K69 hK69 σ x1 x2 x3 x5 x6 x7 x8 x8 x2 x1 hB (lv_sub hl [0, 1, 2, 3, 4, 5, 6, 7] rfl) hf
def bm_bestFor_81 (n : Nat) (K69 : MS → Int32 → Int32 → Int32 → Int32 → Int32 → Int32 → Int32 → Option (Int32 × MS)) (σ : MS) (x1 : Int32) (x2 : Int32) (x3 : Int32) (x5 : Int32) (x6 : Int32) (x7 : Int32) (x8 : Int32) (t0 : Int32) (t1 : Int32) : Option (Int32 × MS) := if (t0 ≤ t1) then (ck (ib x1 7) (sq (mp σ 5 (Int32.toNatClampNeg x1) x7) (fun σ3 => some (x5, σ3)))) else (if (x3 = 1) then (ck (ib x1 7) (sq (mp σ 5 (Int32.toNatClampNeg x1) x8) (fun σ6 => bm_bestFor_97 n K69 σ6 x1 x2 x3 x5 x6 x7 x8))) else (bm_bestFor_97 n K69 σ x1 x2 x3 x5 x6 x7 x8))
set_option maxRecDepth 100000 in
set_option maxHeartbeats 4000000 in
theorem tbm_bestFor_81 {p : Program} {l : Launch} {e : Env} {s : State} {m : MethodId} {args : Array Value} {below : List Frame} {meth : Method} {c : Code} {D : va_G} {A : Nat → Prop} {ad : Nat → Nat} {cy : ClassId} {r0 : Int32} {σ0 : MS} (hc : cxB RX8 wsM cX8_bestFor 10 (some .int) p s m args meth c) (hK : va_K D vwCl [(cy, .int)] s) (hA : ∀ q, s.heap.size ≤ q → A q) (n : Nat) (K69 : MS → Int32 → Int32 → Int32 → Int32 → Int32 → Int32 → Int32 → Option (Int32 × MS)) (hK69 : ∀ (σ : MS) (x1 : Int32) (x2 : Int32) (x3 : Int32) (x5 : Int32) (x6 : Int32) (x7 : Int32) (x8 : Int32) (H : Heap) (locs : List Loc) (ls : Array Slot), mB D ad cy A s.heap σ H locs → lv_has ls 10 [(0, .ref (ad 0)), (1, .int x1), (2, .int x2), (3, .int x3), (5, .int x5), (6, .int x6), (7, .int x7), (8, .int x8)] → K69 σ x1 x2 x3 x5 x6 x7 x8 = some (r0, σ0) → W p l e rm_bestFor s m args below meth c H locs 0 0 (MQ below (mQi D ad cy A r0 σ0) args s 0 0 A) (F0 m 69 ls [])) (σ : MS) (x1 : Int32) (x2 : Int32) (x3 : Int32) (x5 : Int32) (x6 : Int32) (x7 : Int32) (x8 : Int32) (t0 : Int32) (t1 : Int32) {H : Heap} {locs : List Loc} {ls : Array Slot} (hB : mB D ad cy A s.heap σ H locs) (hl : lv_has ls 10 [(0, .ref (ad 0)), (1, .int x1), (2, .int x2), (3, .int x3), (5, .int x5), (6, .int x6), (7, .int x7), (8, .int x8)]) (hf : bm_bestFor_81 n K69 σ x1 x2 x3 x5 x6 x7 x8 t0 t1 = some (r0, σ0)) : W p l e rm_bestFor s m args below meth c H locs 0 0 (MQ below (mQi D ad cy A r0 σ0) args s 0 0 A) (F0 m 81 ls [.int t0, .int t1]) := by
  obtain ⟨hx, hb, hml, hown, hts, hr, hlocks⟩ := id hc
  unfold bm_bestFor_81 at hf
  refine lv_icmp_ge (tgt := 139) hx hb dX8_bestFor_81 (by decide) (fun c1 => ?_) (fun c1 => ?_)
  · have hf := it_t hf c1
    refine lv_aload_n hx hb dX8_bestFor_139 rfl (lv_at hl 0 rfl) ?_
    refine rm_get hx hb hts inM hown hK hB 4 (Nat.le_of_ble_eq_true rfl) qf_22 rfl dX8_bestFor_140 ?_
    refine lv_iload_n hx hb dX8_bestFor_143 rfl (lv_at hl 1 rfl) ?_
    refine lv_iload hx hb dX8_bestFor_144 (lv_at hl 6 rfl) ?_
    obtain ⟨k2, hf⟩ := ck_e hf
    refine rm_ast hx hb hK hB 5 rfl (msa_5 _ _ _) k2 dX8_bestFor_146 (fun σ3 eσ3 H locs hB => ?_)
    have hf := sq_e hf σ3 eσ3
    refine lv_iload hx hb dX8_bestFor_147 (lv_at hl 4 rfl) ?_
    obtain ⟨rfl, rfl⟩ := so_e hf
    exact rm_iret hx hb hr hlocks hK hB dX8_bestFor_149
  · have hf := it_f hf c1
    refine lv_iload_n hx hb dX8_bestFor_84 rfl (lv_at hl 3 rfl) ?_
    refine lv_iconst (v := 1) hx hb dX8_bestFor_85 (by decide) ?_
    refine lv_icmp_ne (tgt := 97) hx hb dX8_bestFor_86 (by decide) (fun c4 => ?_) (fun c4 => ?_)
    · have hf := it_f hf c4
      exact tbm_bestFor_97 hc hK hA n K69 hK69 σ x1 x2 x3 x5 x6 x7 x8 hB (lv_sub hl [0, 1, 2, 3, 4, 5, 6, 7] rfl) hf
    · have hf := it_t hf c4
      refine lv_aload_n hx hb dX8_bestFor_89 rfl (lv_at hl 0 rfl) ?_
      refine rm_get hx hb hts inM hown hK hB 4 (Nat.le_of_ble_eq_true rfl) qf_22 rfl dX8_bestFor_90 ?_
      refine lv_iload_n hx hb dX8_bestFor_93 rfl (lv_at hl 1 rfl) ?_
      refine lv_iload hx hb dX8_bestFor_94 (lv_at hl 7 rfl) ?_
      obtain ⟨k5, hf⟩ := ck_e hf
      refine rm_ast hx hb hK hB 5 rfl (msa_5 _ _ _) k5 dX8_bestFor_96 (fun σ6 eσ6 H locs hB => ?_)
      have hf := sq_e hf σ6 eσ6
      exact tbm_bestFor_97 hc hK hA n K69 hK69 σ6 x1 x2 x3 x5 x6 x7 x8 hB (lv_sub hl [0, 1, 2, 3, 4, 5, 6, 7] rfl) hf
def bm_bestFor_69 (n : Nat) (K69 : MS → Int32 → Int32 → Int32 → Int32 → Int32 → Int32 → Int32 → Option (Int32 × MS)) (σ : MS) (x1 : Int32) (x2 : Int32) (x3 : Int32) (x5 : Int32) (x6 : Int32) (x7 : Int32) (x8 : Int32) : Option (Int32 × MS) := if (x3 = 0) then (bm_bestFor_81 n K69 σ x1 x2 x3 x5 x6 x7 x8 4 x8) else (bm_bestFor_81 n K69 σ x1 x2 x3 x5 x6 x7 x8 10 x8)
set_option maxRecDepth 100000 in
set_option maxHeartbeats 4000000 in
theorem tbm_bestFor_69 {p : Program} {l : Launch} {e : Env} {s : State} {m : MethodId} {args : Array Value} {below : List Frame} {meth : Method} {c : Code} {D : va_G} {A : Nat → Prop} {ad : Nat → Nat} {cy : ClassId} {r0 : Int32} {σ0 : MS} (hc : cxB RX8 wsM cX8_bestFor 10 (some .int) p s m args meth c) (hK : va_K D vwCl [(cy, .int)] s) (hA : ∀ q, s.heap.size ≤ q → A q) (n : Nat) (K69 : MS → Int32 → Int32 → Int32 → Int32 → Int32 → Int32 → Int32 → Option (Int32 × MS)) (hK69 : ∀ (σ : MS) (x1 : Int32) (x2 : Int32) (x3 : Int32) (x5 : Int32) (x6 : Int32) (x7 : Int32) (x8 : Int32) (H : Heap) (locs : List Loc) (ls : Array Slot), mB D ad cy A s.heap σ H locs → lv_has ls 10 [(0, .ref (ad 0)), (1, .int x1), (2, .int x2), (3, .int x3), (5, .int x5), (6, .int x6), (7, .int x7), (8, .int x8)] → K69 σ x1 x2 x3 x5 x6 x7 x8 = some (r0, σ0) → W p l e rm_bestFor s m args below meth c H locs 0 0 (MQ below (mQi D ad cy A r0 σ0) args s 0 0 A) (F0 m 69 ls [])) (σ : MS) (x1 : Int32) (x2 : Int32) (x3 : Int32) (x5 : Int32) (x6 : Int32) (x7 : Int32) (x8 : Int32) {H : Heap} {locs : List Loc} {ls : Array Slot} (hB : mB D ad cy A s.heap σ H locs) (hl : lv_has ls 10 [(0, .ref (ad 0)), (1, .int x1), (2, .int x2), (3, .int x3), (5, .int x5), (6, .int x6), (7, .int x7), (8, .int x8)]) (hf : bm_bestFor_69 n K69 σ x1 x2 x3 x5 x6 x7 x8 = some (r0, σ0)) : W p l e rm_bestFor s m args below meth c H locs 0 0 (MQ below (mQi D ad cy A r0 σ0) args s 0 0 A) (F0 m 69 ls []) := by
  obtain ⟨hx, hb, hml, hown, hts, hr, hlocks⟩ := id hc
  unfold bm_bestFor_69 at hf
  refine lv_iload hx hb dX8_bestFor_69 (lv_at hl 7 rfl) ?_
  refine lv_iload_n hx hb dX8_bestFor_71 rfl (lv_at hl 3 rfl) ?_
  refine lv_if_ne (tgt := 79) hx hb dX8_bestFor_72 (by decide) (fun c1 => ?_) (fun c1 => ?_)
  · have hf := it_f hf c1
    refine lv_bipush (v := 10) hx hb dX8_bestFor_79 (by decide) ?_
    exact tbm_bestFor_81 hc hK hA n K69 hK69 σ x1 x2 x3 x5 x6 x7 x8 10 x8 hB (lv_sub hl [0, 1, 2, 3, 4, 5, 6, 7] rfl) hf
  · have hf := it_t hf c1
    refine lv_iconst (v := 4) hx hb dX8_bestFor_75 (by decide) ?_
    refine lv_goto (tgt := 81) hx hb dX8_bestFor_76 (by decide) ?_
    exact tbm_bestFor_81 hc hK hA n K69 hK69 σ x1 x2 x3 x5 x6 x7 x8 4 x8 hB (lv_sub hl [0, 1, 2, 3, 4, 5, 6, 7] rfl) hf
def lm_bestFor_69 (n : Nat) : Nat → MS → Int32 → Int32 → Int32 → Int32 → Int32 → Int32 → Int32 → Option (Int32 × MS)
  | 0 => fun _ _ _ _ _ _ _ _ => none
  | k + 1 => bm_bestFor_69 n (lm_bestFor_69 n k)
theorem tlm_bestFor_69 {p : Program} {l : Launch} {e : Env} {s : State} {m : MethodId} {args : Array Value} {below : List Frame} {meth : Method} {c : Code} {D : va_G} {A : Nat → Prop} {ad : Nat → Nat} {cy : ClassId} {r0 : Int32} {σ0 : MS} (hc : cxB RX8 wsM cX8_bestFor 10 (some .int) p s m args meth c) (hK : va_K D vwCl [(cy, .int)] s) (hA : ∀ q, s.heap.size ≤ q → A q) (n : Nat) : ∀ (k : Nat) (σ : MS) (x1 : Int32) (x2 : Int32) (x3 : Int32) (x5 : Int32) (x6 : Int32) (x7 : Int32) (x8 : Int32) (H : Heap) (locs : List Loc) (ls : Array Slot), mB D ad cy A s.heap σ H locs → lv_has ls 10 [(0, .ref (ad 0)), (1, .int x1), (2, .int x2), (3, .int x3), (5, .int x5), (6, .int x6), (7, .int x7), (8, .int x8)] → lm_bestFor_69 n k σ x1 x2 x3 x5 x6 x7 x8 = some (r0, σ0) → W p l e rm_bestFor s m args below meth c H locs 0 0 (MQ below (mQi D ad cy A r0 σ0) args s 0 0 A) (F0 m 69 ls []) := by
  intro k
  induction k with
  | zero =>
    intro σ x1 x2 x3 x5 x6 x7 x8 H locs ls hB hl hf
    have hf : (none : Option (Int32 × MS)) = some (r0, σ0) := hf
    cases hf
  | succ k ih =>
    intro σ x1 x2 x3 x5 x6 x7 x8 H locs ls hB hl hf
    exact tbm_bestFor_69 hc hK hA n (lm_bestFor_69 n k) ih σ x1 x2 x3 x5 x6 x7 x8 hB hl hf
def fm_bestFor (n : Nat) (σ : MS) (x1 : Int32) (x2 : Int32) (x3 : Int32) : Option (Int32 × MS) := bd (fm_isPlate n σ x1) (fun r1 σ2 => if (r1 = 0) then (bd (fm_no n σ2 (-1)) (fun r19 σ20 => some (r19, σ20))) else (bd (fm_isIn n σ2 x3 0 1) (fun r4 σ5 => if (r4 = 0) then (bd (fm_no n σ5 (-2)) (fun r17 σ18 => some (r17, σ18))) else (bd (fm_bound n σ5 x2 0 9000) (fun r7 σ8 => if (r7 = 0) then (sq (0 : Int32) (fun y10 => sq ((-1) : Int32) (fun y11 => ck (ib x1 7) (sq ((σ8.1 5 (Int32.toNatClampNeg x1)) : Int32) (fun y13 => sq (0 : Int32) (fun y14 => lm_bestFor_69 n n σ8 x1 x2 x3 y10 y11 y13 y14)))))) else (bd (fm_no n σ8 r7) (fun r15 σ16 => some (r15, σ16))))))))
set_option maxRecDepth 100000 in
set_option maxHeartbeats 4000000 in
theorem tbm_bestFor_0 {p : Program} {l : Launch} {e : Env} {s : State} {m : MethodId} {args : Array Value} {below : List Frame} {meth : Method} {c : Code} {D : va_G} {A : Nat → Prop} {ad : Nat → Nat} {cy : ClassId} {r0 : Int32} {σ0 : MS} (hc : cxB RX8 wsM cX8_bestFor 10 (some .int) p s m args meth c) (hK : va_K D vwCl [(cy, .int)] s) (hA : ∀ q, s.heap.size ≤ q → A q) (n : Nat) (σ : MS) (x1 : Int32) (x2 : Int32) (x3 : Int32) {H : Heap} {locs : List Loc} {ls : Array Slot} (hB : mB D ad cy A s.heap σ H locs) (hl : lv_has ls 10 [(0, .ref (ad 0)), (1, .int x1), (2, .int x2), (3, .int x3)]) (hf : fm_bestFor n σ x1 x2 x3 = some (r0, σ0)) : W p l e rm_bestFor s m args below meth c H locs 0 0 (MQ below (mQi D ad cy A r0 σ0) args s 0 0 A) (F0 m 0 ls []) := by
  obtain ⟨hx, hb, hml, hown, hts, hr, hlocks⟩ := id hc
  unfold fm_bestFor at hf
  refine lv_aload_n hx hb dX8_bestFor_0 rfl (lv_at hl 0 rfl) ?_
  refine lv_iload_n hx hb dX8_bestFor_1 rfl (lv_at hl 1 rfl) ?_
  obtain ⟨r1, σ2, hkr1, hf⟩ := bd_e hf
  refine rm_calliV (av := [.int x1]) (rest := []) hx hb hml hown hts hl.1 hK hA hB (cm_isPlate l D ad cy n σ x1 hkr1) (kw_isPlate hts ⟨Nat.le_of_ble_eq_true rfl, Nat.le_of_ble_eq_true rfl⟩) rfl rfl (lv_room (Nat.le_of_ble_eq_true rfl)) dX8_bestFor_2 (Nat.le_refl _) (Nat.le_refl _) (fun H locs hB => ?_)
  refine lv_if_ne (tgt := 14) hx hb dX8_bestFor_5 (by decide) (fun c3 => ?_) (fun c3 => ?_)
  · have hf := it_f hf c3
    refine lv_iload_n hx hb dX8_bestFor_14 rfl (lv_at hl 3 rfl) ?_
    refine lv_iconst (v := 0) hx hb dX8_bestFor_15 (by decide) ?_
    refine lv_iconst (v := 1) hx hb dX8_bestFor_16 (by decide) ?_
    obtain ⟨r4, σ5, hkr4, hf⟩ := bd_e hf
    refine rm_calliS (av := [.int x3, .int 0, .int 1]) (rest := []) hx hb hml hown hts hl.1 hK hA hB (cm_isIn l D ad cy n σ2 x3 0 1 hkr4) (kw_isIn hts ⟨Nat.le_of_ble_eq_true rfl, Nat.le_of_ble_eq_true rfl⟩) rfl rfl (lv_room (Nat.le_of_ble_eq_true rfl)) dX8_bestFor_17 (Nat.le_refl _) (Nat.le_refl _) (fun H locs hB => ?_)
    refine lv_if_ne (tgt := 30) hx hb dX8_bestFor_20 (by decide) (fun c6 => ?_) (fun c6 => ?_)
    · have hf := it_f hf c6
      refine lv_iload_n hx hb dX8_bestFor_30 rfl (lv_at hl 2 rfl) ?_
      refine lv_iconst (v := 0) hx hb dX8_bestFor_31 (by decide) ?_
      refine lv_sipush (v := 9000) hx hb dX8_bestFor_32 (by decide) ?_
      obtain ⟨r7, σ8, hkr7, hf⟩ := bd_e hf
      refine rm_calliS (av := [.int x2, .int 0, .int 9000]) (rest := []) hx hb hml hown hts hl.1 hK hA hB (cm_bound l D ad cy n σ5 x2 0 9000 hkr7) (kw_bound hts ⟨Nat.le_of_ble_eq_true rfl, Nat.le_of_ble_eq_true rfl⟩) rfl rfl (lv_room (Nat.le_of_ble_eq_true rfl)) dX8_bestFor_35 (Nat.le_refl _) (Nat.le_refl _) (fun H locs hB => ?_)
      refine lv_istore (lv' := [(4, .int r7), (0, .ref (ad 0)), (1, .int x1), (2, .int x2), (3, .int x3)]) hx hb dX8_bestFor_38 hl (by decide) rfl (fun ls hl => ?_)
      refine lv_iload hx hb dX8_bestFor_40 (lv_at hl 0 rfl) ?_
      refine lv_if_eq (tgt := 52) hx hb dX8_bestFor_42 (by decide) (fun c9 => ?_) (fun c9 => ?_)
      · have hf := it_t hf c9
        refine lv_iconst (v := 0) hx hb dX8_bestFor_52 (by decide) ?_
        refine lv_topi (fun y10 ey10 => ?_)
        have hf := sq_e hf y10 ey10
        refine lv_istore (lv' := [(5, .int y10), (4, .int r7), (0, .ref (ad 0)), (1, .int x1), (2, .int x2), (3, .int x3)]) hx hb dX8_bestFor_53 hl (by decide) rfl (fun ls hl => ?_)
        refine lv_iconst (v := (-1)) hx hb dX8_bestFor_55 (by decide) ?_
        refine lv_topi (fun y11 ey11 => ?_)
        have hf := sq_e hf y11 ey11
        refine lv_istore (lv' := [(6, .int y11), (5, .int y10), (4, .int r7), (0, .ref (ad 0)), (1, .int x1), (2, .int x2), (3, .int x3)]) hx hb dX8_bestFor_56 hl (by decide) rfl (fun ls hl => ?_)
        refine lv_aload_n hx hb dX8_bestFor_58 rfl (lv_at hl 3 rfl) ?_
        refine rm_get hx hb hts inM hown hK hB 4 (Nat.le_of_ble_eq_true rfl) qf_22 rfl dX8_bestFor_59 ?_
        refine lv_iload_n hx hb dX8_bestFor_62 rfl (lv_at hl 4 rfl) ?_
        obtain ⟨k12, hf⟩ := ck_e hf
        refine rm_ald hx hb hK hB 5 rfl k12 dX8_bestFor_63 ?_
        refine lv_topi (fun y13 ey13 => ?_)
        have hf := sq_e hf y13 ey13
        refine lv_istore (lv' := [(7, .int y13), (6, .int y11), (5, .int y10), (4, .int r7), (0, .ref (ad 0)), (1, .int x1), (2, .int x2), (3, .int x3)]) hx hb dX8_bestFor_64 hl (by decide) rfl (fun ls hl => ?_)
        refine lv_iconst (v := 0) hx hb dX8_bestFor_66 (by decide) ?_
        refine lv_topi (fun y14 ey14 => ?_)
        have hf := sq_e hf y14 ey14
        refine lv_istore (lv' := [(8, .int y14), (7, .int y13), (6, .int y11), (5, .int y10), (4, .int r7), (0, .ref (ad 0)), (1, .int x1), (2, .int x2), (3, .int x3)]) hx hb dX8_bestFor_67 hl (by decide) rfl (fun ls hl => ?_)
        exact tlm_bestFor_69 hc hK hA n n σ8 x1 x2 x3 y10 y11 y13 y14 _ _ _ hB (lv_sub hl [5, 6, 7, 8, 3, 2, 1, 0] rfl) hf
      · have hf := it_f hf c9
        refine lv_aload_n hx hb dX8_bestFor_45 rfl (lv_at hl 1 rfl) ?_
        refine lv_iload hx hb dX8_bestFor_46 (lv_at hl 0 rfl) ?_
        obtain ⟨r15, σ16, hkr15, hf⟩ := bd_e hf
        refine rm_calliV (av := [.int r7]) (rest := []) hx hb hml hown hts hl.1 hK hA hB (cm_no l D ad cy n σ8 r7 hkr15) (kw_no hts ⟨Nat.le_of_ble_eq_true rfl, Nat.le_of_ble_eq_true rfl⟩) rfl rfl (lv_room (Nat.le_of_ble_eq_true rfl)) dX8_bestFor_48 (Nat.le_refl _) (Nat.le_refl _) (fun H locs hB => ?_)
        obtain ⟨rfl, rfl⟩ := so_e hf
        exact rm_iret hx hb hr hlocks hK hB dX8_bestFor_51
    · have hf := it_t hf c6
      refine lv_aload_n hx hb dX8_bestFor_23 rfl (lv_at hl 0 rfl) ?_
      refine lv_bipush (v := (-2)) hx hb dX8_bestFor_24 (by decide) ?_
      obtain ⟨r17, σ18, hkr17, hf⟩ := bd_e hf
      refine rm_calliV (av := [.int (-2)]) (rest := []) hx hb hml hown hts hl.1 hK hA hB (cm_no l D ad cy n σ5 (-2) hkr17) (kw_no hts ⟨Nat.le_of_ble_eq_true rfl, Nat.le_of_ble_eq_true rfl⟩) rfl rfl (lv_room (Nat.le_of_ble_eq_true rfl)) dX8_bestFor_26 (Nat.le_refl _) (Nat.le_refl _) (fun H locs hB => ?_)
      obtain ⟨rfl, rfl⟩ := so_e hf
      exact rm_iret hx hb hr hlocks hK hB dX8_bestFor_29
  · have hf := it_t hf c3
    refine lv_aload_n hx hb dX8_bestFor_8 rfl (lv_at hl 0 rfl) ?_
    refine lv_iconst (v := (-1)) hx hb dX8_bestFor_9 (by decide) ?_
    obtain ⟨r19, σ20, hkr19, hf⟩ := bd_e hf
    refine rm_calliV (av := [.int (-1)]) (rest := []) hx hb hml hown hts hl.1 hK hA hB (cm_no l D ad cy n σ2 (-1) hkr19) (kw_no hts ⟨Nat.le_of_ble_eq_true rfl, Nat.le_of_ble_eq_true rfl⟩) rfl rfl (lv_room (Nat.le_of_ble_eq_true rfl)) dX8_bestFor_10 (Nat.le_refl _) (Nat.le_refl _) (fun H locs hB => ?_)
    obtain ⟨rfl, rfl⟩ := so_e hf
    exact rm_iret hx hb hr hlocks hK hB dX8_bestFor_13
theorem cm_bestFor (l : Launch) (D : va_G) (ad : Nat → Nat) (cy : ClassId) (n : Nat) (σ : MS) (x1 : Int32) (x2 : Int32) (x3 : Int32) {r0 : Int32} {σ0 : MS} (hf : fm_bestFor n σ x1 x2 x3 = some (r0, σ0)) : mMi l yX8_bestFor wn_bestFor rm_bestFor D ad cy [.ref (ad 0), .int x1, .int x2, .int x3] σ r0 σ0 :=
  rm_meti (ret := (some .int)) (by decide) rfl (Nat.le_of_ble_eq_true rfl) (fun p e s m below meth c A ls hc hK hA hB hl => tbm_bestFor_0 hc hK hA n σ x1 x2 x3 hB hl hf)
/-! heardMany -/
abbrev rm_heardMany : Room := { frames := 0, cells := 0, slots := 0, locals := 0 }
abbrev wn_heardMany : List Cond := .code yX8_heardMany cX8_heardMany 3 (some .int) :: wsM
def bm_heardMany_4 (n : Nat) (K4 : MS → Int32 → Int32 → Option (Int32 × MS)) (σ : MS) (x1 : Int32) (x2 : Int32) : Option (Int32 × MS) := if ((σ.1 0 48) ≤ x2) then (some (x1, σ)) else (ck (ib x2 24) (sq ((σ.1 21 (Int32.toNatClampNeg x2)) : Int32) (fun y3 => if (y3 < 0) then (sq ((x1 + 0) : Int32) (fun y5 => sq (x2 + 1 : Int32) (fun y6 => K4 σ y5 y6))) else (sq ((x1 + 1) : Int32) (fun y7 => sq (x2 + 1 : Int32) (fun y8 => K4 σ y7 y8))))))
set_option maxRecDepth 100000 in
set_option maxHeartbeats 4000000 in
theorem tbm_heardMany_4 {p : Program} {l : Launch} {e : Env} {s : State} {m : MethodId} {args : Array Value} {below : List Frame} {meth : Method} {c : Code} {D : va_G} {A : Nat → Prop} {ad : Nat → Nat} {cy : ClassId} {r0 : Int32} {σ0 : MS} (hc : cxB RX8 wsM cX8_heardMany 3 (some .int) p s m args meth c) (hK : va_K D vwCl [(cy, .int)] s) (hA : ∀ q, s.heap.size ≤ q → A q) (n : Nat) (K4 : MS → Int32 → Int32 → Option (Int32 × MS)) (hK4 : ∀ (σ : MS) (x1 : Int32) (x2 : Int32) (H : Heap) (locs : List Loc) (ls : Array Slot), mB D ad cy A s.heap σ H locs → lv_has ls 3 [(0, .ref (ad 0)), (1, .int x1), (2, .int x2)] → K4 σ x1 x2 = some (r0, σ0) → W p l e rm_heardMany s m args below meth c H locs 0 0 (MQ below (mQi D ad cy A r0 σ0) args s 0 0 A) (F0 m 4 ls [])) (σ : MS) (x1 : Int32) (x2 : Int32) {H : Heap} {locs : List Loc} {ls : Array Slot} (hB : mB D ad cy A s.heap σ H locs) (hl : lv_has ls 3 [(0, .ref (ad 0)), (1, .int x1), (2, .int x2)]) (hf : bm_heardMany_4 n K4 σ x1 x2 = some (r0, σ0)) : W p l e rm_heardMany s m args below meth c H locs 0 0 (MQ below (mQi D ad cy A r0 σ0) args s 0 0 A) (F0 m 4 ls []) := by
  obtain ⟨hx, hb, hml, hown, hts, hr, hlocks⟩ := id hc
  unfold bm_heardMany_4 at hf
  refine lv_iload_n hx hb dX8_heardMany_4 rfl (lv_at hl 2 rfl) ?_
  refine lv_aload_n hx hb dX8_heardMany_5 rfl (lv_at hl 0 rfl) ?_
  refine rm_get hx hb hts inM hown hK hB 48 (Nat.le_of_ble_eq_true rfl) qf_282 rfl dX8_heardMany_6 ?_
  refine lv_icmp_ge (tgt := 35) hx hb dX8_heardMany_9 (by decide) (fun c1 => ?_) (fun c1 => ?_)
  · have hf := it_t hf c1
    refine lv_iload_n hx hb dX8_heardMany_35 rfl (lv_at hl 1 rfl) ?_
    obtain ⟨rfl, rfl⟩ := so_e hf
    exact rm_iret hx hb hr hlocks hK hB dX8_heardMany_36
  · have hf := it_f hf c1
    refine lv_iload_n hx hb dX8_heardMany_12 rfl (lv_at hl 1 rfl) ?_
    refine lv_aload_n hx hb dX8_heardMany_13 rfl (lv_at hl 0 rfl) ?_
    refine rm_get hx hb hts inM hown hK hB 47 (Nat.le_of_ble_eq_true rfl) qf_74 rfl dX8_heardMany_14 ?_
    refine lv_iload_n hx hb dX8_heardMany_17 rfl (lv_at hl 2 rfl) ?_
    obtain ⟨k2, hf⟩ := ck_e hf
    refine rm_ald hx hb hK hB 21 rfl k2 dX8_heardMany_18 ?_
    refine lv_topi (fun y3 ey3 => ?_)
    have hf := sq_e hf y3 ey3
    refine lv_if_lt (tgt := 26) hx hb dX8_heardMany_19 (by decide) (fun c4 => ?_) (fun c4 => ?_)
    · have hf := it_t hf c4
      refine lv_iconst (v := 0) hx hb dX8_heardMany_26 (by decide) ?_
      refine lv_iadd hx hb dX8_heardMany_27 ?_
      refine lv_topi (fun y5 ey5 => ?_)
      have hf := sq_e hf y5 ey5
      refine lv_istore_n (lv' := [(1, .int y5), (0, .ref (ad 0)), (2, .int x2)]) hx hb dX8_heardMany_28 rfl hl (by decide) rfl (fun ls hl => ?_)
      obtain ⟨y6, ey6⟩ : ∃ z : Int32, z = x2 + 1 := ⟨_, rfl⟩
      have hf := sq_e hf y6 ey6
      refine lv_iinc (v := y6) (lv' := [(2, .int y6), (1, .int y5), (0, .ref (ad 0))]) hx hb dX8_heardMany_29 hl (k := 2) rfl (by rw [ey6]; rfl) (by decide) rfl (fun ls hl => ?_)
      refine lv_goto (tgt := 4) hx hb dX8_heardMany_32 (by decide) ?_
      exact hK4 σ y5 y6 _ _ _ hB (lv_sub hl [2, 1, 0] rfl) hf
    · have hf := it_f hf c4
      refine lv_iconst (v := 1) hx hb dX8_heardMany_22 (by decide) ?_
      refine lv_goto (tgt := 27) hx hb dX8_heardMany_23 (by decide) ?_
      refine lv_iadd hx hb dX8_heardMany_27 ?_
      refine lv_topi (fun y7 ey7 => ?_)
      have hf := sq_e hf y7 ey7
      refine lv_istore_n (lv' := [(1, .int y7), (0, .ref (ad 0)), (2, .int x2)]) hx hb dX8_heardMany_28 rfl hl (by decide) rfl (fun ls hl => ?_)
      obtain ⟨y8, ey8⟩ : ∃ z : Int32, z = x2 + 1 := ⟨_, rfl⟩
      have hf := sq_e hf y8 ey8
      refine lv_iinc (v := y8) (lv' := [(2, .int y8), (1, .int y7), (0, .ref (ad 0))]) hx hb dX8_heardMany_29 hl (k := 2) rfl (by rw [ey8]; rfl) (by decide) rfl (fun ls hl => ?_)
      refine lv_goto (tgt := 4) hx hb dX8_heardMany_32 (by decide) ?_
      exact hK4 σ y7 y8 _ _ _ hB (lv_sub hl [2, 1, 0] rfl) hf
def lm_heardMany_4 (n : Nat) : Nat → MS → Int32 → Int32 → Option (Int32 × MS)
  | 0 => fun _ _ _ => none
  | k + 1 => bm_heardMany_4 n (lm_heardMany_4 n k)
theorem tlm_heardMany_4 {p : Program} {l : Launch} {e : Env} {s : State} {m : MethodId} {args : Array Value} {below : List Frame} {meth : Method} {c : Code} {D : va_G} {A : Nat → Prop} {ad : Nat → Nat} {cy : ClassId} {r0 : Int32} {σ0 : MS} (hc : cxB RX8 wsM cX8_heardMany 3 (some .int) p s m args meth c) (hK : va_K D vwCl [(cy, .int)] s) (hA : ∀ q, s.heap.size ≤ q → A q) (n : Nat) : ∀ (k : Nat) (σ : MS) (x1 : Int32) (x2 : Int32) (H : Heap) (locs : List Loc) (ls : Array Slot), mB D ad cy A s.heap σ H locs → lv_has ls 3 [(0, .ref (ad 0)), (1, .int x1), (2, .int x2)] → lm_heardMany_4 n k σ x1 x2 = some (r0, σ0) → W p l e rm_heardMany s m args below meth c H locs 0 0 (MQ below (mQi D ad cy A r0 σ0) args s 0 0 A) (F0 m 4 ls []) := by
  intro k
  induction k with
  | zero =>
    intro σ x1 x2 H locs ls hB hl hf
    have hf : (none : Option (Int32 × MS)) = some (r0, σ0) := hf
    cases hf
  | succ k ih =>
    intro σ x1 x2 H locs ls hB hl hf
    exact tbm_heardMany_4 hc hK hA n (lm_heardMany_4 n k) ih σ x1 x2 hB hl hf
def fm_heardMany (n : Nat) (σ : MS) : Option (Int32 × MS) := sq (0 : Int32) (fun y1 => sq (0 : Int32) (fun y2 => lm_heardMany_4 n n σ y1 y2))
set_option maxRecDepth 100000 in
set_option maxHeartbeats 4000000 in
theorem tbm_heardMany_0 {p : Program} {l : Launch} {e : Env} {s : State} {m : MethodId} {args : Array Value} {below : List Frame} {meth : Method} {c : Code} {D : va_G} {A : Nat → Prop} {ad : Nat → Nat} {cy : ClassId} {r0 : Int32} {σ0 : MS} (hc : cxB RX8 wsM cX8_heardMany 3 (some .int) p s m args meth c) (hK : va_K D vwCl [(cy, .int)] s) (hA : ∀ q, s.heap.size ≤ q → A q) (n : Nat) (σ : MS) {H : Heap} {locs : List Loc} {ls : Array Slot} (hB : mB D ad cy A s.heap σ H locs) (hl : lv_has ls 3 [(0, .ref (ad 0))]) (hf : fm_heardMany n σ = some (r0, σ0)) : W p l e rm_heardMany s m args below meth c H locs 0 0 (MQ below (mQi D ad cy A r0 σ0) args s 0 0 A) (F0 m 0 ls []) := by
  obtain ⟨hx, hb, hml, hown, hts, hr, hlocks⟩ := id hc
  unfold fm_heardMany at hf
  refine lv_iconst (v := 0) hx hb dX8_heardMany_0 (by decide) ?_
  refine lv_topi (fun y1 ey1 => ?_)
  have hf := sq_e hf y1 ey1
  refine lv_istore_n (lv' := [(1, .int y1), (0, .ref (ad 0))]) hx hb dX8_heardMany_1 rfl hl (by decide) rfl (fun ls hl => ?_)
  refine lv_iconst (v := 0) hx hb dX8_heardMany_2 (by decide) ?_
  refine lv_topi (fun y2 ey2 => ?_)
  have hf := sq_e hf y2 ey2
  refine lv_istore_n (lv' := [(2, .int y2), (1, .int y1), (0, .ref (ad 0))]) hx hb dX8_heardMany_3 rfl hl (by decide) rfl (fun ls hl => ?_)
  exact tlm_heardMany_4 hc hK hA n n σ y1 y2 _ _ _ hB (lv_sub hl [2, 1, 0] rfl) hf
theorem cm_heardMany (l : Launch) (D : va_G) (ad : Nat → Nat) (cy : ClassId) (n : Nat) (σ : MS) {r0 : Int32} {σ0 : MS} (hf : fm_heardMany n σ = some (r0, σ0)) : mMi l yX8_heardMany wn_heardMany rm_heardMany D ad cy [.ref (ad 0)] σ r0 σ0 :=
  rm_meti (ret := (some .int)) (by decide) rfl (Nat.le_of_ble_eq_true rfl) (fun p e s m below meth c A ls hc hK hA hB hl => tbm_heardMany_0 hc hK hA n σ hB hl hf)
theorem kw_heardMany {R : Room} {s : State} {args : Array Value} (hts : ∀ w ∈ wsM, w.before args s = true) (hR : rm_heardMany.frames + 1 ≤ R.frames ∧ 8 + (3 + 11) + rm_heardMany.locals ≤ R.locals) : CallW R s args RX8 RX8 304 yX8_heardMany cX8_heardMany 3 (some .int) wn_heardMany rm_heardMany 0 0 0 := cwV 0 hts (gM_v qw_209 qw_210 qw_211 qw_37 qw_208) rfl rfl rfl (by decide +kernel) hR
/-! ear -/
abbrev rm_ear : Room := { frames := 6, cells := 0, slots := 0, locals := 150 }
abbrev wn_ear : List Cond := .code yX8_ear cX8_ear 6 (some .int) :: wsM
def bm_ear_85 (n : Nat) (K38 : MS → Int32 → Int32 → Int32 → Int32 → Option (Int32 × MS)) (σ : MS) (x1 : Int32) (x4 : Int32) (x5 : Int32) : Option (Int32 × MS) := sq (x4 + 1 : Int32) (fun y1 => K38 σ x1 x4 x5 y1)
set_option maxRecDepth 100000 in
set_option maxHeartbeats 4000000 in
theorem tbm_ear_85 {p : Program} {l : Launch} {e : Env} {s : State} {m : MethodId} {args : Array Value} {below : List Frame} {meth : Method} {c : Code} {D : va_G} {A : Nat → Prop} {ad : Nat → Nat} {cy : ClassId} {r0 : Int32} {σ0 : MS} (hc : cxB RX8 wsM cX8_ear 6 (some .int) p s m args meth c) (hK : va_K D vwCl [(cy, .int)] s) (hA : ∀ q, s.heap.size ≤ q → A q) (n : Nat) (K38 : MS → Int32 → Int32 → Int32 → Int32 → Option (Int32 × MS)) (hK38 : ∀ (σ : MS) (x1 : Int32) (x2 : Int32) (x3 : Int32) (x4 : Int32) (H : Heap) (locs : List Loc) (ls : Array Slot), mB D ad cy A s.heap σ H locs → lv_has ls 6 [(0, .ref (ad 0)), (1, .int x1), (2, .int x2), (3, .int x3), (4, .int x4)] → K38 σ x1 x2 x3 x4 = some (r0, σ0) → W p l e rm_ear s m args below meth c H locs 0 0 (MQ below (mQi D ad cy A r0 σ0) args s 0 0 A) (F0 m 38 ls [])) (σ : MS) (x1 : Int32) (x4 : Int32) (x5 : Int32) {H : Heap} {locs : List Loc} {ls : Array Slot} (hB : mB D ad cy A s.heap σ H locs) (hl : lv_has ls 6 [(0, .ref (ad 0)), (1, .int x1), (4, .int x4), (5, .int x5)]) (hf : bm_ear_85 n K38 σ x1 x4 x5 = some (r0, σ0)) : W p l e rm_ear s m args below meth c H locs 0 0 (MQ below (mQi D ad cy A r0 σ0) args s 0 0 A) (F0 m 85 ls []) := by
  obtain ⟨hx, hb, hml, hown, hts, hr, hlocks⟩ := id hc
  unfold bm_ear_85 at hf
  refine lv_iload hx hb dX8_ear_85 (lv_at hl 2 rfl) ?_
  refine lv_istore_n (lv' := [(2, .int x4), (0, .ref (ad 0)), (1, .int x1), (4, .int x4), (5, .int x5)]) hx hb dX8_ear_87 rfl hl (by decide) rfl (fun ls hl => ?_)
  refine lv_iload hx hb dX8_ear_88 (lv_at hl 4 rfl) ?_
  refine lv_istore_n (lv' := [(3, .int x5), (2, .int x4), (0, .ref (ad 0)), (1, .int x1), (4, .int x4), (5, .int x5)]) hx hb dX8_ear_90 rfl hl (by decide) rfl (fun ls hl => ?_)
  obtain ⟨y1, ey1⟩ : ∃ z : Int32, z = x4 + 1 := ⟨_, rfl⟩
  have hf := sq_e hf y1 ey1
  refine lv_iinc (v := y1) (lv' := [(4, .int y1), (3, .int x5), (2, .int x4), (0, .ref (ad 0)), (1, .int x1), (5, .int x5)]) hx hb dX8_ear_91 hl (k := 4) rfl (by rw [ey1]; rfl) (by decide) rfl (fun ls hl => ?_)
  refine lv_goto (tgt := 38) hx hb dX8_ear_94 (by decide) ?_
  exact hK38 σ x1 x4 x5 y1 _ _ _ hB (lv_sub hl [3, 4, 2, 1, 0] rfl) hf
def bm_ear_38 (n : Nat) (K38 : MS → Int32 → Int32 → Int32 → Int32 → Option (Int32 × MS)) (σ : MS) (x1 : Int32) (x2 : Int32) (x3 : Int32) (x4 : Int32) : Option (Int32 × MS) := if ((σ.1 0 11) ≤ x4) then (if (x1 = 0) then (some (x2, σ)) else (if (x1 = 2) then (some (x3, σ)) else (bd (fm_heardMany n σ) (fun r4 σ5 => if (x3 ≤ ((σ.1 0 49) * r4)) then (some (0, σ5)) else (some (1, σ5)))))) else (bd (fm_all n σ) (fun r7 σ8 => bd (fm_begins n σ8 x4 (σ.1 0 44) (σ.1 0 41) r7) (fun _ σ10 => bd (fm_offs n σ10 0) (fun r11 σ12 => if (x2 < 0) then (bm_ear_85 n K38 σ12 x1 x4 r11) else (if (r11 < x3) then (bm_ear_85 n K38 σ12 x1 x4 r11) else (sq (x4 + 1 : Int32) (fun y15 => K38 σ12 x1 x2 x3 y15)))))))
set_option maxRecDepth 100000 in
set_option maxHeartbeats 4000000 in
theorem tbm_ear_38 {p : Program} {l : Launch} {e : Env} {s : State} {m : MethodId} {args : Array Value} {below : List Frame} {meth : Method} {c : Code} {D : va_G} {A : Nat → Prop} {ad : Nat → Nat} {cy : ClassId} {r0 : Int32} {σ0 : MS} (hc : cxB RX8 wsM cX8_ear 6 (some .int) p s m args meth c) (hK : va_K D vwCl [(cy, .int)] s) (hA : ∀ q, s.heap.size ≤ q → A q) (n : Nat) (K38 : MS → Int32 → Int32 → Int32 → Int32 → Option (Int32 × MS)) (hK38 : ∀ (σ : MS) (x1 : Int32) (x2 : Int32) (x3 : Int32) (x4 : Int32) (H : Heap) (locs : List Loc) (ls : Array Slot), mB D ad cy A s.heap σ H locs → lv_has ls 6 [(0, .ref (ad 0)), (1, .int x1), (2, .int x2), (3, .int x3), (4, .int x4)] → K38 σ x1 x2 x3 x4 = some (r0, σ0) → W p l e rm_ear s m args below meth c H locs 0 0 (MQ below (mQi D ad cy A r0 σ0) args s 0 0 A) (F0 m 38 ls [])) (σ : MS) (x1 : Int32) (x2 : Int32) (x3 : Int32) (x4 : Int32) {H : Heap} {locs : List Loc} {ls : Array Slot} (hB : mB D ad cy A s.heap σ H locs) (hl : lv_has ls 6 [(0, .ref (ad 0)), (1, .int x1), (2, .int x2), (3, .int x3), (4, .int x4)]) (hf : bm_ear_38 n K38 σ x1 x2 x3 x4 = some (r0, σ0)) : W p l e rm_ear s m args below meth c H locs 0 0 (MQ below (mQi D ad cy A r0 σ0) args s 0 0 A) (F0 m 38 ls []) := by
  obtain ⟨hx, hb, hml, hown, hts, hr, hlocks⟩ := id hc
  unfold bm_ear_38 at hf
  refine lv_iload hx hb dX8_ear_38 (lv_at hl 4 rfl) ?_
  refine lv_aload_n hx hb dX8_ear_40 rfl (lv_at hl 0 rfl) ?_
  refine rm_get hx hb hts inM hown hK hB 11 (Nat.le_of_ble_eq_true rfl) qf_123 rfl dX8_ear_41 ?_
  refine lv_icmp_ge (tgt := 97) hx hb dX8_ear_44 (by decide) (fun c1 => ?_) (fun c1 => ?_)
  · have hf := it_t hf c1
    refine lv_iload_n hx hb dX8_ear_97 rfl (lv_at hl 1 rfl) ?_
    refine lv_if_ne (tgt := 105) hx hb dX8_ear_98 (by decide) (fun c2 => ?_) (fun c2 => ?_)
    · have hf := it_f hf c2
      refine lv_iload_n hx hb dX8_ear_105 rfl (lv_at hl 1 rfl) ?_
      refine lv_iconst (v := 2) hx hb dX8_ear_106 (by decide) ?_
      refine lv_icmp_ne (tgt := 114) hx hb dX8_ear_107 (by decide) (fun c3 => ?_) (fun c3 => ?_)
      · have hf := it_f hf c3
        refine lv_iload_n hx hb dX8_ear_114 rfl (lv_at hl 3 rfl) ?_
        refine lv_aload_n hx hb dX8_ear_115 rfl (lv_at hl 0 rfl) ?_
        refine rm_get hx hb hts inM hown hK hB 49 (Nat.le_of_ble_eq_true rfl) qf_285 rfl dX8_ear_116 ?_
        refine lv_aload_n hx hb dX8_ear_119 rfl (lv_at hl 0 rfl) ?_
        obtain ⟨r4, σ5, hkr4, hf⟩ := bd_e hf
        refine rm_calliV (av := []) (rest := [.int (σ.1 0 49), .int x3]) hx hb hml hown hts hl.1 hK hA hB (cm_heardMany l D ad cy n σ hkr4) (kw_heardMany hts ⟨Nat.le_of_ble_eq_true rfl, Nat.le_of_ble_eq_true rfl⟩) rfl rfl (lv_room (Nat.le_of_ble_eq_true rfl)) dX8_ear_120 (Nat.le_refl _) (Nat.le_refl _) (fun H locs hB => ?_)
        refine lv_imul hx hb dX8_ear_123 ?_
        refine lv_icmp_le (tgt := 131) hx hb dX8_ear_124 (by decide) (fun c6 => ?_) (fun c6 => ?_)
        · have hf := it_t hf c6
          refine lv_iconst (v := 0) hx hb dX8_ear_131 (by decide) ?_
          obtain ⟨rfl, rfl⟩ := so_e hf
          exact rm_iret hx hb hr hlocks hK hB dX8_ear_132
        · have hf := it_f hf c6
          refine lv_iconst (v := 1) hx hb dX8_ear_127 (by decide) ?_
          refine lv_goto (tgt := 132) hx hb dX8_ear_128 (by decide) ?_
          obtain ⟨rfl, rfl⟩ := so_e hf
          exact rm_iret hx hb hr hlocks hK hB dX8_ear_132
      · have hf := it_t hf c3
        refine lv_iload_n hx hb dX8_ear_110 rfl (lv_at hl 3 rfl) ?_
        refine lv_goto (tgt := 132) hx hb dX8_ear_111 (by decide) ?_
        obtain ⟨rfl, rfl⟩ := so_e hf
        exact rm_iret hx hb hr hlocks hK hB dX8_ear_132
    · have hf := it_t hf c2
      refine lv_iload_n hx hb dX8_ear_101 rfl (lv_at hl 2 rfl) ?_
      refine lv_goto (tgt := 132) hx hb dX8_ear_102 (by decide) ?_
      obtain ⟨rfl, rfl⟩ := so_e hf
      exact rm_iret hx hb hr hlocks hK hB dX8_ear_132
  · have hf := it_f hf c1
    refine lv_aload_n hx hb dX8_ear_47 rfl (lv_at hl 0 rfl) ?_
    refine lv_iload hx hb dX8_ear_48 (lv_at hl 4 rfl) ?_
    refine lv_aload_n hx hb dX8_ear_50 rfl (lv_at hl 0 rfl) ?_
    refine rm_get hx hb hts inM hown hK hB 44 (Nat.le_of_ble_eq_true rfl) qf_259 rfl dX8_ear_51 ?_
    refine lv_aload_n hx hb dX8_ear_54 rfl (lv_at hl 0 rfl) ?_
    refine rm_get hx hb hts inM hown hK hB 41 (Nat.le_of_ble_eq_true rfl) qf_256 rfl dX8_ear_55 ?_
    refine lv_aload_n hx hb dX8_ear_58 rfl (lv_at hl 0 rfl) ?_
    obtain ⟨r7, σ8, hkr7, hf⟩ := bd_e hf
    refine rm_calliV (av := []) (rest := [.int (σ.1 0 41), .int (σ.1 0 44), .int x4, .ref (ad 0)]) hx hb hml hown hts hl.1 hK hA hB (cm_all l D ad cy n σ hkr7) (kw_all hts ⟨Nat.le_of_ble_eq_true rfl, Nat.le_of_ble_eq_true rfl⟩) rfl rfl (lv_room (Nat.le_of_ble_eq_true rfl)) dX8_ear_59 (Nat.le_refl _) (Nat.le_refl _) (fun H locs hB => ?_)
    obtain ⟨r9, σ10, hkr9, hf⟩ := bd_e hf
    refine rm_callvV (av := [.int x4, .int (σ.1 0 44), .int (σ.1 0 41), .int r7]) (rest := []) hx hb hml hown hts hl.1 hK hA hB (cm_begins l D ad cy n σ8 x4 (σ.1 0 44) (σ.1 0 41) r7 hkr9) (kw_begins hts ⟨Nat.le_of_ble_eq_true rfl, Nat.le_of_ble_eq_true rfl⟩) rfl rfl (lv_room (Nat.le_of_ble_eq_true rfl)) dX8_ear_62 (Nat.le_refl _) (Nat.le_refl _) (fun H locs hB => ?_)
    refine lv_aload_n hx hb dX8_ear_65 rfl (lv_at hl 0 rfl) ?_
    refine lv_iconst (v := 0) hx hb dX8_ear_66 (by decide) ?_
    obtain ⟨r11, σ12, hkr11, hf⟩ := bd_e hf
    refine rm_calliV (av := [.int 0]) (rest := []) hx hb hml hown hts hl.1 hK hA hB (cm_offs l D ad cy n σ10 0 hkr11) (kw_offs hts ⟨Nat.le_of_ble_eq_true rfl, Nat.le_of_ble_eq_true rfl⟩) rfl rfl (lv_room (Nat.le_of_ble_eq_true rfl)) dX8_ear_67 (Nat.le_refl _) (Nat.le_refl _) (fun H locs hB => ?_)
    refine lv_istore (lv' := [(5, .int r11), (0, .ref (ad 0)), (1, .int x1), (2, .int x2), (3, .int x3), (4, .int x4)]) hx hb dX8_ear_70 hl (by decide) rfl (fun ls hl => ?_)
    refine lv_iload_n hx hb dX8_ear_72 rfl (lv_at hl 3 rfl) ?_
    refine lv_if_lt (tgt := 85) hx hb dX8_ear_73 (by decide) (fun c13 => ?_) (fun c13 => ?_)
    · have hf := it_t hf c13
      exact tbm_ear_85 hc hK hA n K38 hK38 σ12 x1 x4 r11 hB (lv_sub hl [1, 2, 5, 0] rfl) hf
    · have hf := it_f hf c13
      refine lv_iload hx hb dX8_ear_76 (lv_at hl 0 rfl) ?_
      refine lv_iload_n hx hb dX8_ear_78 rfl (lv_at hl 4 rfl) ?_
      refine lv_icmp_lt (tgt := 85) hx hb dX8_ear_79 (by decide) (fun c14 => ?_) (fun c14 => ?_)
      · have hf := it_t hf c14
        exact tbm_ear_85 hc hK hA n K38 hK38 σ12 x1 x4 r11 hB (lv_sub hl [1, 2, 5, 0] rfl) hf
      · have hf := it_f hf c14
        refine lv_goto (tgt := 91) hx hb dX8_ear_82 (by decide) ?_
        obtain ⟨y15, ey15⟩ : ∃ z : Int32, z = x4 + 1 := ⟨_, rfl⟩
        have hf := sq_e hf y15 ey15
        refine lv_iinc (v := y15) (lv' := [(4, .int y15), (5, .int r11), (0, .ref (ad 0)), (1, .int x1), (2, .int x2), (3, .int x3)]) hx hb dX8_ear_91 hl (k := 5) rfl (by rw [ey15]; rfl) (by decide) rfl (fun ls hl => ?_)
        refine lv_goto (tgt := 38) hx hb dX8_ear_94 (by decide) ?_
        exact hK38 σ12 x1 x2 x3 y15 _ _ _ hB (lv_sub hl [2, 3, 4, 5, 0] rfl) hf
def lm_ear_38 (n : Nat) : Nat → MS → Int32 → Int32 → Int32 → Int32 → Option (Int32 × MS)
  | 0 => fun _ _ _ _ _ => none
  | k + 1 => bm_ear_38 n (lm_ear_38 n k)
theorem tlm_ear_38 {p : Program} {l : Launch} {e : Env} {s : State} {m : MethodId} {args : Array Value} {below : List Frame} {meth : Method} {c : Code} {D : va_G} {A : Nat → Prop} {ad : Nat → Nat} {cy : ClassId} {r0 : Int32} {σ0 : MS} (hc : cxB RX8 wsM cX8_ear 6 (some .int) p s m args meth c) (hK : va_K D vwCl [(cy, .int)] s) (hA : ∀ q, s.heap.size ≤ q → A q) (n : Nat) : ∀ (k : Nat) (σ : MS) (x1 : Int32) (x2 : Int32) (x3 : Int32) (x4 : Int32) (H : Heap) (locs : List Loc) (ls : Array Slot), mB D ad cy A s.heap σ H locs → lv_has ls 6 [(0, .ref (ad 0)), (1, .int x1), (2, .int x2), (3, .int x3), (4, .int x4)] → lm_ear_38 n k σ x1 x2 x3 x4 = some (r0, σ0) → W p l e rm_ear s m args below meth c H locs 0 0 (MQ below (mQi D ad cy A r0 σ0) args s 0 0 A) (F0 m 38 ls []) := by
  intro k
  induction k with
  | zero =>
    intro σ x1 x2 x3 x4 H locs ls hB hl hf
    have hf : (none : Option (Int32 × MS)) = some (r0, σ0) := hf
    cases hf
  | succ k ih =>
    intro σ x1 x2 x3 x4 H locs ls hB hl hf
    exact tbm_ear_38 hc hK hA n (lm_ear_38 n k) ih σ x1 x2 x3 x4 hB hl hf
def fm_ear (n : Nat) (σ : MS) (x1 : Int32) : Option (Int32 × MS) := bd (fm_isIn n σ x1 0 2) (fun r1 σ2 => if (r1 = 0) then (bd (fm_no n σ2 (-2)) (fun r10 σ11 => some (r10, σ11))) else (if ((σ2.1 0 38) = 0) then (bd (fm_no n σ2 (-3)) (fun r8 σ9 => some (r8, σ9))) else (sq ((-9) : Int32) (fun y5 => sq (0 : Int32) (fun y6 => sq (0 : Int32) (fun y7 => lm_ear_38 n n σ2 x1 y5 y6 y7))))))
set_option maxRecDepth 100000 in
set_option maxHeartbeats 4000000 in
theorem tbm_ear_0 {p : Program} {l : Launch} {e : Env} {s : State} {m : MethodId} {args : Array Value} {below : List Frame} {meth : Method} {c : Code} {D : va_G} {A : Nat → Prop} {ad : Nat → Nat} {cy : ClassId} {r0 : Int32} {σ0 : MS} (hc : cxB RX8 wsM cX8_ear 6 (some .int) p s m args meth c) (hK : va_K D vwCl [(cy, .int)] s) (hA : ∀ q, s.heap.size ≤ q → A q) (n : Nat) (σ : MS) (x1 : Int32) {H : Heap} {locs : List Loc} {ls : Array Slot} (hB : mB D ad cy A s.heap σ H locs) (hl : lv_has ls 6 [(0, .ref (ad 0)), (1, .int x1)]) (hf : fm_ear n σ x1 = some (r0, σ0)) : W p l e rm_ear s m args below meth c H locs 0 0 (MQ below (mQi D ad cy A r0 σ0) args s 0 0 A) (F0 m 0 ls []) := by
  obtain ⟨hx, hb, hml, hown, hts, hr, hlocks⟩ := id hc
  unfold fm_ear at hf
  refine lv_iload_n hx hb dX8_ear_0 rfl (lv_at hl 1 rfl) ?_
  refine lv_iconst (v := 0) hx hb dX8_ear_1 (by decide) ?_
  refine lv_iconst (v := 2) hx hb dX8_ear_2 (by decide) ?_
  obtain ⟨r1, σ2, hkr1, hf⟩ := bd_e hf
  refine rm_calliS (av := [.int x1, .int 0, .int 2]) (rest := []) hx hb hml hown hts hl.1 hK hA hB (cm_isIn l D ad cy n σ x1 0 2 hkr1) (kw_isIn hts ⟨Nat.le_of_ble_eq_true rfl, Nat.le_of_ble_eq_true rfl⟩) rfl rfl (lv_room (Nat.le_of_ble_eq_true rfl)) dX8_ear_3 (Nat.le_refl _) (Nat.le_refl _) (fun H locs hB => ?_)
  refine lv_if_ne (tgt := 16) hx hb dX8_ear_6 (by decide) (fun c3 => ?_) (fun c3 => ?_)
  · have hf := it_f hf c3
    refine lv_aload_n hx hb dX8_ear_16 rfl (lv_at hl 0 rfl) ?_
    refine rm_get hx hb hts inM hown hK hB 38 (Nat.le_of_ble_eq_true rfl) qf_253 rfl dX8_ear_17 ?_
    refine lv_if_ne (tgt := 30) hx hb dX8_ear_20 (by decide) (fun c4 => ?_) (fun c4 => ?_)
    · have hf := it_f hf c4
      refine lv_bipush (v := (-9)) hx hb dX8_ear_30 (by decide) ?_
      refine lv_topi (fun y5 ey5 => ?_)
      have hf := sq_e hf y5 ey5
      refine lv_istore_n (lv' := [(2, .int y5), (0, .ref (ad 0)), (1, .int x1)]) hx hb dX8_ear_32 rfl hl (by decide) rfl (fun ls hl => ?_)
      refine lv_iconst (v := 0) hx hb dX8_ear_33 (by decide) ?_
      refine lv_topi (fun y6 ey6 => ?_)
      have hf := sq_e hf y6 ey6
      refine lv_istore_n (lv' := [(3, .int y6), (2, .int y5), (0, .ref (ad 0)), (1, .int x1)]) hx hb dX8_ear_34 rfl hl (by decide) rfl (fun ls hl => ?_)
      refine lv_iconst (v := 0) hx hb dX8_ear_35 (by decide) ?_
      refine lv_topi (fun y7 ey7 => ?_)
      have hf := sq_e hf y7 ey7
      refine lv_istore (lv' := [(4, .int y7), (3, .int y6), (2, .int y5), (0, .ref (ad 0)), (1, .int x1)]) hx hb dX8_ear_36 hl (by decide) rfl (fun ls hl => ?_)
      exact tlm_ear_38 hc hK hA n n σ2 x1 y5 y6 y7 _ _ _ hB (lv_sub hl [3, 4, 2, 1, 0] rfl) hf
    · have hf := it_t hf c4
      refine lv_aload_n hx hb dX8_ear_23 rfl (lv_at hl 0 rfl) ?_
      refine lv_bipush (v := (-3)) hx hb dX8_ear_24 (by decide) ?_
      obtain ⟨r8, σ9, hkr8, hf⟩ := bd_e hf
      refine rm_calliV (av := [.int (-3)]) (rest := []) hx hb hml hown hts hl.1 hK hA hB (cm_no l D ad cy n σ2 (-3) hkr8) (kw_no hts ⟨Nat.le_of_ble_eq_true rfl, Nat.le_of_ble_eq_true rfl⟩) rfl rfl (lv_room (Nat.le_of_ble_eq_true rfl)) dX8_ear_26 (Nat.le_refl _) (Nat.le_refl _) (fun H locs hB => ?_)
      obtain ⟨rfl, rfl⟩ := so_e hf
      exact rm_iret hx hb hr hlocks hK hB dX8_ear_29
  · have hf := it_t hf c3
    refine lv_aload_n hx hb dX8_ear_9 rfl (lv_at hl 0 rfl) ?_
    refine lv_bipush (v := (-2)) hx hb dX8_ear_10 (by decide) ?_
    obtain ⟨r10, σ11, hkr10, hf⟩ := bd_e hf
    refine rm_calliV (av := [.int (-2)]) (rest := []) hx hb hml hown hts hl.1 hK hA hB (cm_no l D ad cy n σ2 (-2) hkr10) (kw_no hts ⟨Nat.le_of_ble_eq_true rfl, Nat.le_of_ble_eq_true rfl⟩) rfl rfl (lv_room (Nat.le_of_ble_eq_true rfl)) dX8_ear_12 (Nat.le_refl _) (Nat.le_refl _) (fun H locs hB => ?_)
    obtain ⟨rfl, rfl⟩ := so_e hf
    exact rm_iret hx hb hr hlocks hK hB dX8_ear_15
theorem cm_ear (l : Launch) (D : va_G) (ad : Nat → Nat) (cy : ClassId) (n : Nat) (σ : MS) (x1 : Int32) {r0 : Int32} {σ0 : MS} (hf : fm_ear n σ x1 = some (r0, σ0)) : mMi l yX8_ear wn_ear rm_ear D ad cy [.ref (ad 0), .int x1] σ r0 σ0 :=
  rm_meti (ret := (some .int)) (by decide) rfl (Nat.le_of_ble_eq_true rfl) (fun p e s m below meth c A ls hc hK hA hB hl => tbm_ear_0 hc hK hA n σ x1 hB hl hf)
/-! stagger -/
abbrev rm_stagger : Room := { frames := 6, cells := 0, slots := 0, locals := 150 }
abbrev wn_stagger : List Cond := .code yX8_stagger cX8_stagger 3 (some .int) :: wsM
def bm_stagger_30 (n : Nat) (K30 : MS → Int32 → Int32 → Option (Int32 × MS)) (σ : MS) (x1 : Int32) (x2 : Int32) : Option (Int32 × MS) := if (1000 ≤ x2) then (some ((-9), σ)) else (bd (fm_beginsSpin n σ) (fun _ σ3 => sq (mp σ3 0 31 x1) (fun σ4 => sq (mp σ4 0 32 x2) (fun σ5 => bd (fm_offs n σ5 1) (fun r6 σ7 => if (r6 = (-9)) then (some (x2, σ7)) else (sq (x2 + 10 : Int32) (fun y9 => K30 σ7 x1 y9)))))))
set_option maxRecDepth 100000 in
set_option maxHeartbeats 4000000 in
theorem tbm_stagger_30 {p : Program} {l : Launch} {e : Env} {s : State} {m : MethodId} {args : Array Value} {below : List Frame} {meth : Method} {c : Code} {D : va_G} {A : Nat → Prop} {ad : Nat → Nat} {cy : ClassId} {r0 : Int32} {σ0 : MS} (hc : cxB RX8 wsM cX8_stagger 3 (some .int) p s m args meth c) (hK : va_K D vwCl [(cy, .int)] s) (hA : ∀ q, s.heap.size ≤ q → A q) (n : Nat) (K30 : MS → Int32 → Int32 → Option (Int32 × MS)) (hK30 : ∀ (σ : MS) (x1 : Int32) (x2 : Int32) (H : Heap) (locs : List Loc) (ls : Array Slot), mB D ad cy A s.heap σ H locs → lv_has ls 3 [(0, .ref (ad 0)), (1, .int x1), (2, .int x2)] → K30 σ x1 x2 = some (r0, σ0) → W p l e rm_stagger s m args below meth c H locs 0 0 (MQ below (mQi D ad cy A r0 σ0) args s 0 0 A) (F0 m 30 ls [])) (σ : MS) (x1 : Int32) (x2 : Int32) {H : Heap} {locs : List Loc} {ls : Array Slot} (hB : mB D ad cy A s.heap σ H locs) (hl : lv_has ls 3 [(0, .ref (ad 0)), (1, .int x1), (2, .int x2)]) (hf : bm_stagger_30 n K30 σ x1 x2 = some (r0, σ0)) : W p l e rm_stagger s m args below meth c H locs 0 0 (MQ below (mQi D ad cy A r0 σ0) args s 0 0 A) (F0 m 30 ls []) := by
  obtain ⟨hx, hb, hml, hown, hts, hr, hlocks⟩ := id hc
  unfold bm_stagger_30 at hf
  refine lv_iload_n hx hb dX8_stagger_30 rfl (lv_at hl 2 rfl) ?_
  refine lv_sipush (v := 1000) hx hb dX8_stagger_31 (by decide) ?_
  refine lv_icmp_ge (tgt := 69) hx hb dX8_stagger_34 (by decide) (fun c1 => ?_) (fun c1 => ?_)
  · have hf := it_t hf c1
    refine lv_bipush (v := (-9)) hx hb dX8_stagger_69 (by decide) ?_
    obtain ⟨rfl, rfl⟩ := so_e hf
    exact rm_iret hx hb hr hlocks hK hB dX8_stagger_71
  · have hf := it_f hf c1
    refine lv_aload_n hx hb dX8_stagger_37 rfl (lv_at hl 0 rfl) ?_
    obtain ⟨r2, σ3, hkr2, hf⟩ := bd_e hf
    refine rm_callvV (av := []) (rest := []) hx hb hml hown hts hl.1 hK hA hB (cm_beginsSpin l D ad cy n σ hkr2) (kw_beginsSpin hts ⟨Nat.le_of_ble_eq_true rfl, Nat.le_of_ble_eq_true rfl⟩) rfl rfl (lv_room (Nat.le_of_ble_eq_true rfl)) dX8_stagger_38 (Nat.le_refl _) (Nat.le_refl _) (fun H locs hB => ?_)
    refine lv_aload_n hx hb dX8_stagger_41 rfl (lv_at hl 0 rfl) ?_
    refine lv_iload_n hx hb dX8_stagger_42 rfl (lv_at hl 1 rfl) ?_
    refine rm_puti hx hb hts inM hown hK hB 31 (Nat.le_of_ble_eq_true rfl) qf_209 (ms_31 _ _ _) rfl pd_31 rfl rfl dX8_stagger_43 (fun σ4 eσ4 H locs hB => ?_)
    have hf := sq_e hf σ4 eσ4
    refine lv_aload_n hx hb dX8_stagger_46 rfl (lv_at hl 0 rfl) ?_
    refine lv_iload_n hx hb dX8_stagger_47 rfl (lv_at hl 2 rfl) ?_
    refine rm_puti hx hb hts inM hown hK hB 32 (Nat.le_of_ble_eq_true rfl) qf_216 (ms_32 _ _ _) rfl pd_32 rfl rfl dX8_stagger_48 (fun σ5 eσ5 H locs hB => ?_)
    have hf := sq_e hf σ5 eσ5
    refine lv_aload_n hx hb dX8_stagger_51 rfl (lv_at hl 0 rfl) ?_
    refine lv_iconst (v := 1) hx hb dX8_stagger_52 (by decide) ?_
    obtain ⟨r6, σ7, hkr6, hf⟩ := bd_e hf
    refine rm_calliV (av := [.int 1]) (rest := []) hx hb hml hown hts hl.1 hK hA hB (cm_offs l D ad cy n σ5 1 hkr6) (kw_offs hts ⟨Nat.le_of_ble_eq_true rfl, Nat.le_of_ble_eq_true rfl⟩) rfl rfl (lv_room (Nat.le_of_ble_eq_true rfl)) dX8_stagger_53 (Nat.le_refl _) (Nat.le_refl _) (fun H locs hB => ?_)
    refine lv_bipush (v := (-9)) hx hb dX8_stagger_56 (by decide) ?_
    refine lv_icmp_ne (tgt := 63) hx hb dX8_stagger_58 (by decide) (fun c8 => ?_) (fun c8 => ?_)
    · have hf := it_f hf c8
      obtain ⟨y9, ey9⟩ : ∃ z : Int32, z = x2 + 10 := ⟨_, rfl⟩
      have hf := sq_e hf y9 ey9
      refine lv_iinc (v := y9) (lv' := [(2, .int y9), (0, .ref (ad 0)), (1, .int x1)]) hx hb dX8_stagger_63 hl (k := 2) rfl (by rw [ey9]; rfl) (by decide) rfl (fun ls hl => ?_)
      refine lv_goto (tgt := 30) hx hb dX8_stagger_66 (by decide) ?_
      exact hK30 σ7 x1 y9 _ _ _ hB (lv_sub hl [1, 2, 0] rfl) hf
    · have hf := it_t hf c8
      refine lv_iload_n hx hb dX8_stagger_61 rfl (lv_at hl 2 rfl) ?_
      obtain ⟨rfl, rfl⟩ := so_e hf
      exact rm_iret hx hb hr hlocks hK hB dX8_stagger_62
def lm_stagger_30 (n : Nat) : Nat → MS → Int32 → Int32 → Option (Int32 × MS)
  | 0 => fun _ _ _ => none
  | k + 1 => bm_stagger_30 n (lm_stagger_30 n k)
theorem tlm_stagger_30 {p : Program} {l : Launch} {e : Env} {s : State} {m : MethodId} {args : Array Value} {below : List Frame} {meth : Method} {c : Code} {D : va_G} {A : Nat → Prop} {ad : Nat → Nat} {cy : ClassId} {r0 : Int32} {σ0 : MS} (hc : cxB RX8 wsM cX8_stagger 3 (some .int) p s m args meth c) (hK : va_K D vwCl [(cy, .int)] s) (hA : ∀ q, s.heap.size ≤ q → A q) (n : Nat) : ∀ (k : Nat) (σ : MS) (x1 : Int32) (x2 : Int32) (H : Heap) (locs : List Loc) (ls : Array Slot), mB D ad cy A s.heap σ H locs → lv_has ls 3 [(0, .ref (ad 0)), (1, .int x1), (2, .int x2)] → lm_stagger_30 n k σ x1 x2 = some (r0, σ0) → W p l e rm_stagger s m args below meth c H locs 0 0 (MQ below (mQi D ad cy A r0 σ0) args s 0 0 A) (F0 m 30 ls []) := by
  intro k
  induction k with
  | zero =>
    intro σ x1 x2 H locs ls hB hl hf
    have hf : (none : Option (Int32 × MS)) = some (r0, σ0) := hf
    cases hf
  | succ k ih =>
    intro σ x1 x2 H locs ls hB hl hf
    exact tbm_stagger_30 hc hK hA n (lm_stagger_30 n k) ih σ x1 x2 hB hl hf
def fm_stagger (n : Nat) (σ : MS) (x1 : Int32) : Option (Int32 × MS) := bd (fm_isLoss n σ x1) (fun r1 σ2 => if (r1 = 0) then (bd (fm_no n σ2 (-1)) (fun r8 σ9 => some (r8, σ9))) else (if ((σ2.1 0 38) = 0) then (bd (fm_no n σ2 (-3)) (fun r6 σ7 => some (r6, σ7))) else (sq (0 : Int32) (fun y5 => lm_stagger_30 n n σ2 x1 y5))))
set_option maxRecDepth 100000 in
set_option maxHeartbeats 4000000 in
theorem tbm_stagger_0 {p : Program} {l : Launch} {e : Env} {s : State} {m : MethodId} {args : Array Value} {below : List Frame} {meth : Method} {c : Code} {D : va_G} {A : Nat → Prop} {ad : Nat → Nat} {cy : ClassId} {r0 : Int32} {σ0 : MS} (hc : cxB RX8 wsM cX8_stagger 3 (some .int) p s m args meth c) (hK : va_K D vwCl [(cy, .int)] s) (hA : ∀ q, s.heap.size ≤ q → A q) (n : Nat) (σ : MS) (x1 : Int32) {H : Heap} {locs : List Loc} {ls : Array Slot} (hB : mB D ad cy A s.heap σ H locs) (hl : lv_has ls 3 [(0, .ref (ad 0)), (1, .int x1)]) (hf : fm_stagger n σ x1 = some (r0, σ0)) : W p l e rm_stagger s m args below meth c H locs 0 0 (MQ below (mQi D ad cy A r0 σ0) args s 0 0 A) (F0 m 0 ls []) := by
  obtain ⟨hx, hb, hml, hown, hts, hr, hlocks⟩ := id hc
  unfold fm_stagger at hf
  refine lv_aload_n hx hb dX8_stagger_0 rfl (lv_at hl 0 rfl) ?_
  refine lv_iload_n hx hb dX8_stagger_1 rfl (lv_at hl 1 rfl) ?_
  obtain ⟨r1, σ2, hkr1, hf⟩ := bd_e hf
  refine rm_calliV (av := [.int x1]) (rest := []) hx hb hml hown hts hl.1 hK hA hB (cm_isLoss l D ad cy n σ x1 hkr1) (kw_isLoss hts ⟨Nat.le_of_ble_eq_true rfl, Nat.le_of_ble_eq_true rfl⟩) rfl rfl (lv_room (Nat.le_of_ble_eq_true rfl)) dX8_stagger_2 (Nat.le_refl _) (Nat.le_refl _) (fun H locs hB => ?_)
  refine lv_if_ne (tgt := 14) hx hb dX8_stagger_5 (by decide) (fun c3 => ?_) (fun c3 => ?_)
  · have hf := it_f hf c3
    refine lv_aload_n hx hb dX8_stagger_14 rfl (lv_at hl 0 rfl) ?_
    refine rm_get hx hb hts inM hown hK hB 38 (Nat.le_of_ble_eq_true rfl) qf_253 rfl dX8_stagger_15 ?_
    refine lv_if_ne (tgt := 28) hx hb dX8_stagger_18 (by decide) (fun c4 => ?_) (fun c4 => ?_)
    · have hf := it_f hf c4
      refine lv_iconst (v := 0) hx hb dX8_stagger_28 (by decide) ?_
      refine lv_topi (fun y5 ey5 => ?_)
      have hf := sq_e hf y5 ey5
      refine lv_istore_n (lv' := [(2, .int y5), (0, .ref (ad 0)), (1, .int x1)]) hx hb dX8_stagger_29 rfl hl (by decide) rfl (fun ls hl => ?_)
      exact tlm_stagger_30 hc hK hA n n σ2 x1 y5 _ _ _ hB (lv_sub hl [1, 2, 0] rfl) hf
    · have hf := it_t hf c4
      refine lv_aload_n hx hb dX8_stagger_21 rfl (lv_at hl 0 rfl) ?_
      refine lv_bipush (v := (-3)) hx hb dX8_stagger_22 (by decide) ?_
      obtain ⟨r6, σ7, hkr6, hf⟩ := bd_e hf
      refine rm_calliV (av := [.int (-3)]) (rest := []) hx hb hml hown hts hl.1 hK hA hB (cm_no l D ad cy n σ2 (-3) hkr6) (kw_no hts ⟨Nat.le_of_ble_eq_true rfl, Nat.le_of_ble_eq_true rfl⟩) rfl rfl (lv_room (Nat.le_of_ble_eq_true rfl)) dX8_stagger_24 (Nat.le_refl _) (Nat.le_refl _) (fun H locs hB => ?_)
      obtain ⟨rfl, rfl⟩ := so_e hf
      exact rm_iret hx hb hr hlocks hK hB dX8_stagger_27
  · have hf := it_t hf c3
    refine lv_aload_n hx hb dX8_stagger_8 rfl (lv_at hl 0 rfl) ?_
    refine lv_iconst (v := (-1)) hx hb dX8_stagger_9 (by decide) ?_
    obtain ⟨r8, σ9, hkr8, hf⟩ := bd_e hf
    refine rm_calliV (av := [.int (-1)]) (rest := []) hx hb hml hown hts hl.1 hK hA hB (cm_no l D ad cy n σ2 (-1) hkr8) (kw_no hts ⟨Nat.le_of_ble_eq_true rfl, Nat.le_of_ble_eq_true rfl⟩) rfl rfl (lv_room (Nat.le_of_ble_eq_true rfl)) dX8_stagger_10 (Nat.le_refl _) (Nat.le_refl _) (fun H locs hB => ?_)
    obtain ⟨rfl, rfl⟩ := so_e hf
    exact rm_iret hx hb hr hlocks hK hB dX8_stagger_13
theorem cm_stagger (l : Launch) (D : va_G) (ad : Nat → Nat) (cy : ClassId) (n : Nat) (σ : MS) (x1 : Int32) {r0 : Int32} {σ0 : MS} (hf : fm_stagger n σ x1 = some (r0, σ0)) : mMi l yX8_stagger wn_stagger rm_stagger D ad cy [.ref (ad 0), .int x1] σ r0 σ0 :=
  rm_meti (ret := (some .int)) (by decide) rfl (Nat.le_of_ble_eq_true rfl) (fun p e s m below meth c A ls hc hK hA hB hl => tbm_stagger_0 hc hK hA n σ x1 hB hl hf)
/-! trust -/
abbrev rm_trust : Room := { frames := 6, cells := 0, slots := 0, locals := 146 }
abbrev wn_trust : List Cond := .code yX8_trust cX8_trust 6 (some .int) :: wsM
def bm_trust_83 (n : Nat) (K47 : MS → Int32 → Int32 → Int32 → Option (Int32 × MS)) (σ : MS) (x1 : Int32) (x3 : Int32) (x4 : Int32) : Option (Int32 × MS) := if (x4 = 10) then (sq (5 : Int32) (fun y5 => K47 σ x1 x3 y5)) else (if (x4 = 5) then (sq (2 : Int32) (fun y4 => K47 σ x1 x3 y4)) else (sq (1 : Int32) (fun y3 => K47 σ x1 x3 y3)))
set_option maxRecDepth 100000 in
set_option maxHeartbeats 4000000 in
theorem tbm_trust_83 {p : Program} {l : Launch} {e : Env} {s : State} {m : MethodId} {args : Array Value} {below : List Frame} {meth : Method} {c : Code} {D : va_G} {A : Nat → Prop} {ad : Nat → Nat} {cy : ClassId} {r0 : Int32} {σ0 : MS} (hc : cxB RX8 wsM cX8_trust 6 (some .int) p s m args meth c) (hK : va_K D vwCl [(cy, .int)] s) (hA : ∀ q, s.heap.size ≤ q → A q) (n : Nat) (K47 : MS → Int32 → Int32 → Int32 → Option (Int32 × MS)) (hK47 : ∀ (σ : MS) (x1 : Int32) (x3 : Int32) (x4 : Int32) (H : Heap) (locs : List Loc) (ls : Array Slot), mB D ad cy A s.heap σ H locs → lv_has ls 6 [(0, .ref (ad 0)), (1, .int x1), (3, .int x3), (4, .int x4)] → K47 σ x1 x3 x4 = some (r0, σ0) → W p l e rm_trust s m args below meth c H locs 0 0 (MQ below (mQi D ad cy A r0 σ0) args s 0 0 A) (F0 m 47 ls [])) (σ : MS) (x1 : Int32) (x3 : Int32) (x4 : Int32) {H : Heap} {locs : List Loc} {ls : Array Slot} (hB : mB D ad cy A s.heap σ H locs) (hl : lv_has ls 6 [(0, .ref (ad 0)), (1, .int x1), (3, .int x3), (4, .int x4)]) (hf : bm_trust_83 n K47 σ x1 x3 x4 = some (r0, σ0)) : W p l e rm_trust s m args below meth c H locs 0 0 (MQ below (mQi D ad cy A r0 σ0) args s 0 0 A) (F0 m 83 ls []) := by
  obtain ⟨hx, hb, hml, hown, hts, hr, hlocks⟩ := id hc
  unfold bm_trust_83 at hf
  refine lv_iload hx hb dX8_trust_83 (lv_at hl 3 rfl) ?_
  refine lv_bipush (v := 10) hx hb dX8_trust_85 (by decide) ?_
  refine lv_icmp_ne (tgt := 94) hx hb dX8_trust_87 (by decide) (fun c1 => ?_) (fun c1 => ?_)
  · have hf := it_f hf c1
    refine lv_iload hx hb dX8_trust_94 (lv_at hl 3 rfl) ?_
    refine lv_iconst (v := 5) hx hb dX8_trust_96 (by decide) ?_
    refine lv_icmp_ne (tgt := 104) hx hb dX8_trust_97 (by decide) (fun c2 => ?_) (fun c2 => ?_)
    · have hf := it_f hf c2
      refine lv_iconst (v := 1) hx hb dX8_trust_104 (by decide) ?_
      refine lv_topi (fun y3 ey3 => ?_)
      have hf := sq_e hf y3 ey3
      refine lv_istore (lv' := [(4, .int y3), (0, .ref (ad 0)), (1, .int x1), (3, .int x3)]) hx hb dX8_trust_105 hl (by decide) rfl (fun ls hl => ?_)
      refine lv_goto (tgt := 47) hx hb dX8_trust_107 (by decide) ?_
      exact hK47 σ x1 x3 y3 _ _ _ hB (lv_sub hl [1, 2, 3, 0] rfl) hf
    · have hf := it_t hf c2
      refine lv_iconst (v := 2) hx hb dX8_trust_100 (by decide) ?_
      refine lv_goto (tgt := 105) hx hb dX8_trust_101 (by decide) ?_
      refine lv_topi (fun y4 ey4 => ?_)
      have hf := sq_e hf y4 ey4
      refine lv_istore (lv' := [(4, .int y4), (0, .ref (ad 0)), (1, .int x1), (3, .int x3)]) hx hb dX8_trust_105 hl (by decide) rfl (fun ls hl => ?_)
      refine lv_goto (tgt := 47) hx hb dX8_trust_107 (by decide) ?_
      exact hK47 σ x1 x3 y4 _ _ _ hB (lv_sub hl [1, 2, 3, 0] rfl) hf
  · have hf := it_t hf c1
    refine lv_iconst (v := 5) hx hb dX8_trust_90 (by decide) ?_
    refine lv_goto (tgt := 105) hx hb dX8_trust_91 (by decide) ?_
    refine lv_topi (fun y5 ey5 => ?_)
    have hf := sq_e hf y5 ey5
    refine lv_istore (lv' := [(4, .int y5), (0, .ref (ad 0)), (1, .int x1), (3, .int x3)]) hx hb dX8_trust_105 hl (by decide) rfl (fun ls hl => ?_)
    refine lv_goto (tgt := 47) hx hb dX8_trust_107 (by decide) ?_
    exact hK47 σ x1 x3 y5 _ _ _ hB (lv_sub hl [1, 2, 3, 0] rfl) hf
def bm_trust_47 (n : Nat) (K47 : MS → Int32 → Int32 → Int32 → Option (Int32 × MS)) (σ : MS) (x1 : Int32) (x3 : Int32) (x4 : Int32) : Option (Int32 × MS) := if (x4 ≤ 1) then (some (1, σ)) else (bd (fm_beginsSpin n σ) (fun _ σ3 => bd (fm_lastsOn n σ3 x4) (fun r4 σ5 => sq ((r4 - x3) : Int32) (fun y6 => if (x1 < y6) then (bm_trust_83 n K47 σ5 x1 x3 x4) else (if (y6 < (-x1)) then (bm_trust_83 n K47 σ5 x1 x3 x4) else (some (x4, σ5)))))))
set_option maxRecDepth 100000 in
set_option maxHeartbeats 4000000 in
theorem tbm_trust_47 {p : Program} {l : Launch} {e : Env} {s : State} {m : MethodId} {args : Array Value} {below : List Frame} {meth : Method} {c : Code} {D : va_G} {A : Nat → Prop} {ad : Nat → Nat} {cy : ClassId} {r0 : Int32} {σ0 : MS} (hc : cxB RX8 wsM cX8_trust 6 (some .int) p s m args meth c) (hK : va_K D vwCl [(cy, .int)] s) (hA : ∀ q, s.heap.size ≤ q → A q) (n : Nat) (K47 : MS → Int32 → Int32 → Int32 → Option (Int32 × MS)) (hK47 : ∀ (σ : MS) (x1 : Int32) (x3 : Int32) (x4 : Int32) (H : Heap) (locs : List Loc) (ls : Array Slot), mB D ad cy A s.heap σ H locs → lv_has ls 6 [(0, .ref (ad 0)), (1, .int x1), (3, .int x3), (4, .int x4)] → K47 σ x1 x3 x4 = some (r0, σ0) → W p l e rm_trust s m args below meth c H locs 0 0 (MQ below (mQi D ad cy A r0 σ0) args s 0 0 A) (F0 m 47 ls [])) (σ : MS) (x1 : Int32) (x3 : Int32) (x4 : Int32) {H : Heap} {locs : List Loc} {ls : Array Slot} (hB : mB D ad cy A s.heap σ H locs) (hl : lv_has ls 6 [(0, .ref (ad 0)), (1, .int x1), (3, .int x3), (4, .int x4)]) (hf : bm_trust_47 n K47 σ x1 x3 x4 = some (r0, σ0)) : W p l e rm_trust s m args below meth c H locs 0 0 (MQ below (mQi D ad cy A r0 σ0) args s 0 0 A) (F0 m 47 ls []) := by
  obtain ⟨hx, hb, hml, hown, hts, hr, hlocks⟩ := id hc
  unfold bm_trust_47 at hf
  refine lv_iload hx hb dX8_trust_47 (lv_at hl 3 rfl) ?_
  refine lv_iconst (v := 1) hx hb dX8_trust_49 (by decide) ?_
  refine lv_icmp_le (tgt := 110) hx hb dX8_trust_50 (by decide) (fun c1 => ?_) (fun c1 => ?_)
  · have hf := it_t hf c1
    refine lv_iconst (v := 1) hx hb dX8_trust_110 (by decide) ?_
    obtain ⟨rfl, rfl⟩ := so_e hf
    exact rm_iret hx hb hr hlocks hK hB dX8_trust_111
  · have hf := it_f hf c1
    refine lv_aload_n hx hb dX8_trust_53 rfl (lv_at hl 0 rfl) ?_
    obtain ⟨r2, σ3, hkr2, hf⟩ := bd_e hf
    refine rm_callvV (av := []) (rest := []) hx hb hml hown hts hl.1 hK hA hB (cm_beginsSpin l D ad cy n σ hkr2) (kw_beginsSpin hts ⟨Nat.le_of_ble_eq_true rfl, Nat.le_of_ble_eq_true rfl⟩) rfl rfl (lv_room (Nat.le_of_ble_eq_true rfl)) dX8_trust_54 (Nat.le_refl _) (Nat.le_refl _) (fun H locs hB => ?_)
    refine lv_aload_n hx hb dX8_trust_57 rfl (lv_at hl 0 rfl) ?_
    refine lv_iload hx hb dX8_trust_58 (lv_at hl 3 rfl) ?_
    obtain ⟨r4, σ5, hkr4, hf⟩ := bd_e hf
    refine rm_calliV (av := [.int x4]) (rest := []) hx hb hml hown hts hl.1 hK hA hB (cm_lastsOn l D ad cy n σ3 x4 hkr4) (kw_lastsOn hts ⟨Nat.le_of_ble_eq_true rfl, Nat.le_of_ble_eq_true rfl⟩) rfl rfl (lv_room (Nat.le_of_ble_eq_true rfl)) dX8_trust_60 (Nat.le_refl _) (Nat.le_refl _) (fun H locs hB => ?_)
    refine lv_iload_n hx hb dX8_trust_63 rfl (lv_at hl 2 rfl) ?_
    refine lv_isub hx hb dX8_trust_64 ?_
    refine lv_topi (fun y6 ey6 => ?_)
    have hf := sq_e hf y6 ey6
    refine lv_istore (lv' := [(5, .int y6), (0, .ref (ad 0)), (1, .int x1), (3, .int x3), (4, .int x4)]) hx hb dX8_trust_65 hl (by decide) rfl (fun ls hl => ?_)
    refine lv_iload hx hb dX8_trust_67 (lv_at hl 0 rfl) ?_
    refine lv_iload_n hx hb dX8_trust_69 rfl (lv_at hl 2 rfl) ?_
    refine lv_icmp_gt (tgt := 83) hx hb dX8_trust_70 (by decide) (fun c7 => ?_) (fun c7 => ?_)
    · have hf := it_t hf c7
      exact tbm_trust_83 hc hK hA n K47 hK47 σ5 x1 x3 x4 hB (lv_sub hl [1, 2, 3, 4] rfl) hf
    · have hf := it_f hf c7
      refine lv_iload hx hb dX8_trust_73 (lv_at hl 0 rfl) ?_
      refine lv_iload_n hx hb dX8_trust_75 rfl (lv_at hl 2 rfl) ?_
      refine lv_ineg hx hb dX8_trust_76 ?_
      refine lv_icmp_lt (tgt := 83) hx hb dX8_trust_77 (by decide) (fun c8 => ?_) (fun c8 => ?_)
      · have hf := it_t hf c8
        exact tbm_trust_83 hc hK hA n K47 hK47 σ5 x1 x3 x4 hB (lv_sub hl [1, 2, 3, 4] rfl) hf
      · have hf := it_f hf c8
        refine lv_iload hx hb dX8_trust_80 (lv_at hl 4 rfl) ?_
        obtain ⟨rfl, rfl⟩ := so_e hf
        exact rm_iret hx hb hr hlocks hK hB dX8_trust_82
def lm_trust_47 (n : Nat) : Nat → MS → Int32 → Int32 → Int32 → Option (Int32 × MS)
  | 0 => fun _ _ _ _ => none
  | k + 1 => bm_trust_47 n (lm_trust_47 n k)
theorem tlm_trust_47 {p : Program} {l : Launch} {e : Env} {s : State} {m : MethodId} {args : Array Value} {below : List Frame} {meth : Method} {c : Code} {D : va_G} {A : Nat → Prop} {ad : Nat → Nat} {cy : ClassId} {r0 : Int32} {σ0 : MS} (hc : cxB RX8 wsM cX8_trust 6 (some .int) p s m args meth c) (hK : va_K D vwCl [(cy, .int)] s) (hA : ∀ q, s.heap.size ≤ q → A q) (n : Nat) : ∀ (k : Nat) (σ : MS) (x1 : Int32) (x3 : Int32) (x4 : Int32) (H : Heap) (locs : List Loc) (ls : Array Slot), mB D ad cy A s.heap σ H locs → lv_has ls 6 [(0, .ref (ad 0)), (1, .int x1), (3, .int x3), (4, .int x4)] → lm_trust_47 n k σ x1 x3 x4 = some (r0, σ0) → W p l e rm_trust s m args below meth c H locs 0 0 (MQ below (mQi D ad cy A r0 σ0) args s 0 0 A) (F0 m 47 ls []) := by
  intro k
  induction k with
  | zero =>
    intro σ x1 x3 x4 H locs ls hB hl hf
    have hf : (none : Option (Int32 × MS)) = some (r0, σ0) := hf
    cases hf
  | succ k ih =>
    intro σ x1 x3 x4 H locs ls hB hl hf
    exact tbm_trust_47 hc hK hA n (lm_trust_47 n k) ih σ x1 x3 x4 hB hl hf
def fm_trust (n : Nat) (σ : MS) (x1 : Int32) : Option (Int32 × MS) := if ((σ.1 0 38) = 0) then (bd (fm_no n σ (-3)) (fun r12 σ13 => some (r12, σ13))) else (bd (fm_bound n σ x1 0 9999) (fun r2 σ3 => if (r2 = 0) then (bd (fm_beginsSpin n σ3) (fun _ σ6 => bd (fm_lastsOn n σ6 1) (fun r7 σ8 => sq (10 : Int32) (fun y9 => lm_trust_47 n n σ8 x1 r7 y9)))) else (bd (fm_no n σ3 r2) (fun r10 σ11 => some (r10, σ11)))))
set_option maxRecDepth 100000 in
set_option maxHeartbeats 4000000 in
theorem tbm_trust_0 {p : Program} {l : Launch} {e : Env} {s : State} {m : MethodId} {args : Array Value} {below : List Frame} {meth : Method} {c : Code} {D : va_G} {A : Nat → Prop} {ad : Nat → Nat} {cy : ClassId} {r0 : Int32} {σ0 : MS} (hc : cxB RX8 wsM cX8_trust 6 (some .int) p s m args meth c) (hK : va_K D vwCl [(cy, .int)] s) (hA : ∀ q, s.heap.size ≤ q → A q) (n : Nat) (σ : MS) (x1 : Int32) {H : Heap} {locs : List Loc} {ls : Array Slot} (hB : mB D ad cy A s.heap σ H locs) (hl : lv_has ls 6 [(0, .ref (ad 0)), (1, .int x1)]) (hf : fm_trust n σ x1 = some (r0, σ0)) : W p l e rm_trust s m args below meth c H locs 0 0 (MQ below (mQi D ad cy A r0 σ0) args s 0 0 A) (F0 m 0 ls []) := by
  obtain ⟨hx, hb, hml, hown, hts, hr, hlocks⟩ := id hc
  unfold fm_trust at hf
  refine lv_aload_n hx hb dX8_trust_0 rfl (lv_at hl 0 rfl) ?_
  refine rm_get hx hb hts inM hown hK hB 38 (Nat.le_of_ble_eq_true rfl) qf_253 rfl dX8_trust_1 ?_
  refine lv_if_ne (tgt := 14) hx hb dX8_trust_4 (by decide) (fun c1 => ?_) (fun c1 => ?_)
  · have hf := it_f hf c1
    refine lv_iload_n hx hb dX8_trust_14 rfl (lv_at hl 1 rfl) ?_
    refine lv_iconst (v := 0) hx hb dX8_trust_15 (by decide) ?_
    refine lv_sipush (v := 9999) hx hb dX8_trust_16 (by decide) ?_
    obtain ⟨r2, σ3, hkr2, hf⟩ := bd_e hf
    refine rm_calliS (av := [.int x1, .int 0, .int 9999]) (rest := []) hx hb hml hown hts hl.1 hK hA hB (cm_bound l D ad cy n σ x1 0 9999 hkr2) (kw_bound hts ⟨Nat.le_of_ble_eq_true rfl, Nat.le_of_ble_eq_true rfl⟩) rfl rfl (lv_room (Nat.le_of_ble_eq_true rfl)) dX8_trust_19 (Nat.le_refl _) (Nat.le_refl _) (fun H locs hB => ?_)
    refine lv_istore_n (lv' := [(2, .int r2), (0, .ref (ad 0)), (1, .int x1)]) hx hb dX8_trust_22 rfl hl (by decide) rfl (fun ls hl => ?_)
    refine lv_iload_n hx hb dX8_trust_23 rfl (lv_at hl 0 rfl) ?_
    refine lv_if_eq (tgt := 33) hx hb dX8_trust_24 (by decide) (fun c4 => ?_) (fun c4 => ?_)
    · have hf := it_t hf c4
      refine lv_aload_n hx hb dX8_trust_33 rfl (lv_at hl 1 rfl) ?_
      obtain ⟨r5, σ6, hkr5, hf⟩ := bd_e hf
      refine rm_callvV (av := []) (rest := []) hx hb hml hown hts hl.1 hK hA hB (cm_beginsSpin l D ad cy n σ3 hkr5) (kw_beginsSpin hts ⟨Nat.le_of_ble_eq_true rfl, Nat.le_of_ble_eq_true rfl⟩) rfl rfl (lv_room (Nat.le_of_ble_eq_true rfl)) dX8_trust_34 (Nat.le_refl _) (Nat.le_refl _) (fun H locs hB => ?_)
      refine lv_aload_n hx hb dX8_trust_37 rfl (lv_at hl 1 rfl) ?_
      refine lv_iconst (v := 1) hx hb dX8_trust_38 (by decide) ?_
      obtain ⟨r7, σ8, hkr7, hf⟩ := bd_e hf
      refine rm_calliV (av := [.int 1]) (rest := []) hx hb hml hown hts hl.1 hK hA hB (cm_lastsOn l D ad cy n σ6 1 hkr7) (kw_lastsOn hts ⟨Nat.le_of_ble_eq_true rfl, Nat.le_of_ble_eq_true rfl⟩) rfl rfl (lv_room (Nat.le_of_ble_eq_true rfl)) dX8_trust_39 (Nat.le_refl _) (Nat.le_refl _) (fun H locs hB => ?_)
      refine lv_istore_n (lv' := [(3, .int r7), (2, .int r2), (0, .ref (ad 0)), (1, .int x1)]) hx hb dX8_trust_42 rfl hl (by decide) rfl (fun ls hl => ?_)
      refine lv_bipush (v := 10) hx hb dX8_trust_43 (by decide) ?_
      refine lv_topi (fun y9 ey9 => ?_)
      have hf := sq_e hf y9 ey9
      refine lv_istore (lv' := [(4, .int y9), (3, .int r7), (2, .int r2), (0, .ref (ad 0)), (1, .int x1)]) hx hb dX8_trust_45 hl (by decide) rfl (fun ls hl => ?_)
      exact tlm_trust_47 hc hK hA n n σ8 x1 r7 y9 _ _ _ hB (lv_sub hl [3, 4, 1, 0] rfl) hf
    · have hf := it_f hf c4
      refine lv_aload_n hx hb dX8_trust_27 rfl (lv_at hl 1 rfl) ?_
      refine lv_iload_n hx hb dX8_trust_28 rfl (lv_at hl 0 rfl) ?_
      obtain ⟨r10, σ11, hkr10, hf⟩ := bd_e hf
      refine rm_calliV (av := [.int r2]) (rest := []) hx hb hml hown hts hl.1 hK hA hB (cm_no l D ad cy n σ3 r2 hkr10) (kw_no hts ⟨Nat.le_of_ble_eq_true rfl, Nat.le_of_ble_eq_true rfl⟩) rfl rfl (lv_room (Nat.le_of_ble_eq_true rfl)) dX8_trust_29 (Nat.le_refl _) (Nat.le_refl _) (fun H locs hB => ?_)
      obtain ⟨rfl, rfl⟩ := so_e hf
      exact rm_iret hx hb hr hlocks hK hB dX8_trust_32
  · have hf := it_t hf c1
    refine lv_aload_n hx hb dX8_trust_7 rfl (lv_at hl 0 rfl) ?_
    refine lv_bipush (v := (-3)) hx hb dX8_trust_8 (by decide) ?_
    obtain ⟨r12, σ13, hkr12, hf⟩ := bd_e hf
    refine rm_calliV (av := [.int (-3)]) (rest := []) hx hb hml hown hts hl.1 hK hA hB (cm_no l D ad cy n σ (-3) hkr12) (kw_no hts ⟨Nat.le_of_ble_eq_true rfl, Nat.le_of_ble_eq_true rfl⟩) rfl rfl (lv_room (Nat.le_of_ble_eq_true rfl)) dX8_trust_10 (Nat.le_refl _) (Nat.le_refl _) (fun H locs hB => ?_)
    obtain ⟨rfl, rfl⟩ := so_e hf
    exact rm_iret hx hb hr hlocks hK hB dX8_trust_13
theorem cm_trust (l : Launch) (D : va_G) (ad : Nat → Nat) (cy : ClassId) (n : Nat) (σ : MS) (x1 : Int32) {r0 : Int32} {σ0 : MS} (hf : fm_trust n σ x1 = some (r0, σ0)) : mMi l yX8_trust wn_trust rm_trust D ad cy [.ref (ad 0), .int x1] σ r0 σ0 :=
  rm_meti (ret := (some .int)) (by decide) rfl (Nat.le_of_ble_eq_true rfl) (fun p e s m below meth c A ls hc hK hA hB hl => tbm_trust_0 hc hK hA n σ x1 hB hl hf)
