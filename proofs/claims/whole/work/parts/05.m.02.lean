/-! readsLaw -/
abbrev rm_readsLaw : Room := { frames := 4, cells := 0, slots := 0, locals := 85 }
abbrev wn_readsLaw : List Cond := .code yX8_readsLaw cX8_readsLaw 3 (some .boolean) :: wsM
def bm_readsLaw_56 (n : Nat) (K30 : MS → Int32 → Option (Int32 × MS)) (σ : MS) (x1 : Int32) (t0 : Int32) : Option (Int32 × MS) := if (0 ≤ t0) then (if (x1 = 0) then (if (t0 = 1) then (sq (1 : Int32) (fun y5 => K30 σ y5)) else (sq (0 : Int32) (fun y4 => K30 σ y4))) else (if (t0 = 0) then (sq (1 : Int32) (fun y8 => K30 σ y8)) else (sq (0 : Int32) (fun y7 => K30 σ y7)))) else (some (0, σ))
set_option maxRecDepth 100000 in
set_option maxHeartbeats 4000000 in
theorem tbm_readsLaw_56 {p : Program} {l : Launch} {e : Env} {s : State} {m : MethodId} {args : Array Value} {below : List Frame} {meth : Method} {c : Code} {D : va_G} {A : Nat → Prop} {ad : Nat → Nat} {cy : ClassId} {r0 : Int32} {σ0 : MS} (hc : cxB RX8 wsM cX8_readsLaw 3 (some .boolean) p s m args meth c) (hK : va_K D vwCl [(cy, .int)] s) (hA : ∀ q, s.heap.size ≤ q → A q) (n : Nat) (K30 : MS → Int32 → Option (Int32 × MS)) (hK30 : ∀ (σ : MS) (x1 : Int32) (H : Heap) (locs : List Loc) (ls : Array Slot), mB D ad cy A s.heap σ H locs → lv_has ls 3 [(0, .ref (ad 0)), (1, .int x1)] → K30 σ x1 = some (r0, σ0) → W p l e rm_readsLaw s m args below meth c H locs 0 0 (MQ below (mQi D ad cy A r0 σ0) args s 0 0 A) (F0 m 30 ls [])) (σ : MS) (x1 : Int32) (t0 : Int32) {H : Heap} {locs : List Loc} {ls : Array Slot} (hB : mB D ad cy A s.heap σ H locs) (hl : lv_has ls 3 [(0, .ref (ad 0)), (1, .int x1)]) (hf : bm_readsLaw_56 n K30 σ x1 t0 = some (r0, σ0)) : W p l e rm_readsLaw s m args below meth c H locs 0 0 (MQ below (mQi D ad cy A r0 σ0) args s 0 0 A) (F0 m 56 ls [.int t0]) := by
  obtain ⟨hx, hb, hml, hown, hts, hr, hlocks⟩ := id hc
  unfold bm_readsLaw_56 at hf
  refine lv_istore_n (lv' := [(2, .int t0), (0, .ref (ad 0)), (1, .int x1)]) hx hb dX8_readsLaw_56 rfl hl (by decide) rfl (fun ls hl => ?_)
  refine lv_iload_n hx hb dX8_readsLaw_57 rfl (lv_at hl 0 rfl) ?_
  refine lv_if_ge (tgt := 63) hx hb dX8_readsLaw_58 (by decide) (fun c1 => ?_) (fun c1 => ?_)
  · have hf := it_t hf c1
    refine lv_iload_n hx hb dX8_readsLaw_63 rfl (lv_at hl 2 rfl) ?_
    refine lv_if_eq (tgt := 79) hx hb dX8_readsLaw_64 (by decide) (fun c2 => ?_) (fun c2 => ?_)
    · have hf := it_t hf c2
      refine lv_iload_n hx hb dX8_readsLaw_79 rfl (lv_at hl 0 rfl) ?_
      refine lv_iconst (v := 1) hx hb dX8_readsLaw_80 (by decide) ?_
      refine lv_icmp_ne (tgt := 88) hx hb dX8_readsLaw_81 (by decide) (fun c3 => ?_) (fun c3 => ?_)
      · have hf := it_f hf c3
        refine lv_iconst (v := 0) hx hb dX8_readsLaw_88 (by decide) ?_
        refine lv_topi (fun y4 ey4 => ?_)
        have hf := sq_e hf y4 ey4
        refine lv_istore_n (lv' := [(1, .int y4), (2, .int t0), (0, .ref (ad 0))]) hx hb dX8_readsLaw_89 rfl hl (by decide) rfl (fun ls hl => ?_)
        refine lv_goto (tgt := 30) hx hb dX8_readsLaw_90 (by decide) ?_
        exact hK30 σ y4 _ _ _ hB (lv_sub hl [2, 0] rfl) hf
      · have hf := it_t hf c3
        refine lv_iconst (v := 1) hx hb dX8_readsLaw_84 (by decide) ?_
        refine lv_goto (tgt := 89) hx hb dX8_readsLaw_85 (by decide) ?_
        refine lv_topi (fun y5 ey5 => ?_)
        have hf := sq_e hf y5 ey5
        refine lv_istore_n (lv' := [(1, .int y5), (2, .int t0), (0, .ref (ad 0))]) hx hb dX8_readsLaw_89 rfl hl (by decide) rfl (fun ls hl => ?_)
        refine lv_goto (tgt := 30) hx hb dX8_readsLaw_90 (by decide) ?_
        exact hK30 σ y5 _ _ _ hB (lv_sub hl [2, 0] rfl) hf
    · have hf := it_f hf c2
      refine lv_iload_n hx hb dX8_readsLaw_67 rfl (lv_at hl 0 rfl) ?_
      refine lv_if_ne (tgt := 75) hx hb dX8_readsLaw_68 (by decide) (fun c6 => ?_) (fun c6 => ?_)
      · have hf := it_f hf c6
        refine lv_iconst (v := 0) hx hb dX8_readsLaw_75 (by decide) ?_
        refine lv_goto (tgt := 89) hx hb dX8_readsLaw_76 (by decide) ?_
        refine lv_topi (fun y7 ey7 => ?_)
        have hf := sq_e hf y7 ey7
        refine lv_istore_n (lv' := [(1, .int y7), (2, .int t0), (0, .ref (ad 0))]) hx hb dX8_readsLaw_89 rfl hl (by decide) rfl (fun ls hl => ?_)
        refine lv_goto (tgt := 30) hx hb dX8_readsLaw_90 (by decide) ?_
        exact hK30 σ y7 _ _ _ hB (lv_sub hl [2, 0] rfl) hf
      · have hf := it_t hf c6
        refine lv_iconst (v := 1) hx hb dX8_readsLaw_71 (by decide) ?_
        refine lv_goto (tgt := 89) hx hb dX8_readsLaw_72 (by decide) ?_
        refine lv_topi (fun y8 ey8 => ?_)
        have hf := sq_e hf y8 ey8
        refine lv_istore_n (lv' := [(1, .int y8), (2, .int t0), (0, .ref (ad 0))]) hx hb dX8_readsLaw_89 rfl hl (by decide) rfl (fun ls hl => ?_)
        refine lv_goto (tgt := 30) hx hb dX8_readsLaw_90 (by decide) ?_
        exact hK30 σ y8 _ _ _ hB (lv_sub hl [2, 0] rfl) hf
  · have hf := it_f hf c1
    refine lv_iconst (v := 0) hx hb dX8_readsLaw_61 (by decide) ?_
    obtain ⟨rfl, rfl⟩ := so_e hf
    exact rm_zret hx hb hr hlocks rfl hK hB dX8_readsLaw_62
def bm_readsLaw_30 (n : Nat) (K30 : MS → Int32 → Option (Int32 × MS)) (σ : MS) (x1 : Int32) : Option (Int32 × MS) := if ((σ.1 0 9) ≤ (σ.1 0 10)) then (if (x1 = 0) then (if ((σ.1 0 24) ≤ 0) then (bd (fm_settles n σ 0) (fun _ σ5 => some (1, σ5))) else (some (0, σ))) else (some (0, σ))) else (if (x1 = 0) then (bd (fm_behind n σ) (fun r7 σ8 => bm_readsLaw_56 n K30 σ8 x1 r7)) else (bd (fm_wanted n σ) (fun r9 σ10 => bm_readsLaw_56 n K30 σ10 x1 r9)))
set_option maxRecDepth 100000 in
set_option maxHeartbeats 4000000 in
theorem tbm_readsLaw_30 {p : Program} {l : Launch} {e : Env} {s : State} {m : MethodId} {args : Array Value} {below : List Frame} {meth : Method} {c : Code} {D : va_G} {A : Nat → Prop} {ad : Nat → Nat} {cy : ClassId} {r0 : Int32} {σ0 : MS} (hc : cxB RX8 wsM cX8_readsLaw 3 (some .boolean) p s m args meth c) (hK : va_K D vwCl [(cy, .int)] s) (hA : ∀ q, s.heap.size ≤ q → A q) (n : Nat) (K30 : MS → Int32 → Option (Int32 × MS)) (hK30 : ∀ (σ : MS) (x1 : Int32) (H : Heap) (locs : List Loc) (ls : Array Slot), mB D ad cy A s.heap σ H locs → lv_has ls 3 [(0, .ref (ad 0)), (1, .int x1)] → K30 σ x1 = some (r0, σ0) → W p l e rm_readsLaw s m args below meth c H locs 0 0 (MQ below (mQi D ad cy A r0 σ0) args s 0 0 A) (F0 m 30 ls [])) (σ : MS) (x1 : Int32) {H : Heap} {locs : List Loc} {ls : Array Slot} (hB : mB D ad cy A s.heap σ H locs) (hl : lv_has ls 3 [(0, .ref (ad 0)), (1, .int x1)]) (hf : bm_readsLaw_30 n K30 σ x1 = some (r0, σ0)) : W p l e rm_readsLaw s m args below meth c H locs 0 0 (MQ below (mQi D ad cy A r0 σ0) args s 0 0 A) (F0 m 30 ls []) := by
  obtain ⟨hx, hb, hml, hown, hts, hr, hlocks⟩ := id hc
  unfold bm_readsLaw_30 at hf
  refine lv_aload_n hx hb dX8_readsLaw_30 rfl (lv_at hl 0 rfl) ?_
  refine rm_get hx hb hts inM hown hK hB 10 (Nat.le_of_ble_eq_true rfl) qf_99 rfl dX8_readsLaw_31 ?_
  refine lv_aload_n hx hb dX8_readsLaw_34 rfl (lv_at hl 0 rfl) ?_
  refine rm_get hx hb hts inM hown hK hB 9 (Nat.le_of_ble_eq_true rfl) qf_90 rfl dX8_readsLaw_35 ?_
  refine lv_icmp_ge (tgt := 93) hx hb dX8_readsLaw_38 (by decide) (fun c1 => ?_) (fun c1 => ?_)
  · have hf := it_t hf c1
    refine lv_iload_n hx hb dX8_readsLaw_93 rfl (lv_at hl 1 rfl) ?_
    refine lv_if_ne (tgt := 104) hx hb dX8_readsLaw_94 (by decide) (fun c2 => ?_) (fun c2 => ?_)
    · have hf := it_f hf c2
      refine lv_iconst (v := 0) hx hb dX8_readsLaw_104 (by decide) ?_
      obtain ⟨rfl, rfl⟩ := so_e hf
      exact rm_zret hx hb hr hlocks rfl hK hB dX8_readsLaw_105
    · have hf := it_t hf c2
      refine lv_aload_n hx hb dX8_readsLaw_97 rfl (lv_at hl 0 rfl) ?_
      refine rm_get hx hb hts inM hown hK hB 24 (Nat.le_of_ble_eq_true rfl) qf_149 rfl dX8_readsLaw_98 ?_
      refine lv_if_le (tgt := 106) hx hb dX8_readsLaw_101 (by decide) (fun c3 => ?_) (fun c3 => ?_)
      · have hf := it_t hf c3
        refine lv_aload_n hx hb dX8_readsLaw_106 rfl (lv_at hl 0 rfl) ?_
        refine lv_iconst (v := 0) hx hb dX8_readsLaw_107 (by decide) ?_
        obtain ⟨r4, σ5, hkr4, hf⟩ := bd_e hf
        refine rm_callvV (av := [.int 0]) (rest := []) hx hb hml hown hts hl.1 hK hA hB (cm_settles l D ad cy n σ 0 hkr4) (kw_settles hts ⟨Nat.le_of_ble_eq_true rfl, Nat.le_of_ble_eq_true rfl⟩) rfl rfl (lv_room (Nat.le_of_ble_eq_true rfl)) dX8_readsLaw_108 (Nat.le_refl _) (Nat.le_refl _) (fun H locs hB => ?_)
        refine lv_iconst (v := 1) hx hb dX8_readsLaw_111 (by decide) ?_
        obtain ⟨rfl, rfl⟩ := so_e hf
        exact rm_zret hx hb hr hlocks rfl hK hB dX8_readsLaw_112
      · have hf := it_f hf c3
        refine lv_iconst (v := 0) hx hb dX8_readsLaw_104 (by decide) ?_
        obtain ⟨rfl, rfl⟩ := so_e hf
        exact rm_zret hx hb hr hlocks rfl hK hB dX8_readsLaw_105
  · have hf := it_f hf c1
    refine lv_iload_n hx hb dX8_readsLaw_41 rfl (lv_at hl 1 rfl) ?_
    refine lv_if_eq (tgt := 52) hx hb dX8_readsLaw_42 (by decide) (fun c6 => ?_) (fun c6 => ?_)
    · have hf := it_t hf c6
      refine lv_aload_n hx hb dX8_readsLaw_52 rfl (lv_at hl 0 rfl) ?_
      obtain ⟨r7, σ8, hkr7, hf⟩ := bd_e hf
      refine rm_calliV (av := []) (rest := []) hx hb hml hown hts hl.1 hK hA hB (cm_behind l D ad cy n σ hkr7) (kw_behind hts ⟨Nat.le_of_ble_eq_true rfl, Nat.le_of_ble_eq_true rfl⟩) rfl rfl (lv_room (Nat.le_of_ble_eq_true rfl)) dX8_readsLaw_53 (Nat.le_refl _) (Nat.le_refl _) (fun H locs hB => ?_)
      exact tbm_readsLaw_56 hc hK hA n K30 hK30 σ8 x1 r7 hB (lv_sub hl [0, 1] rfl) hf
    · have hf := it_f hf c6
      refine lv_aload_n hx hb dX8_readsLaw_45 rfl (lv_at hl 0 rfl) ?_
      obtain ⟨r9, σ10, hkr9, hf⟩ := bd_e hf
      refine rm_calliV (av := []) (rest := []) hx hb hml hown hts hl.1 hK hA hB (cm_wanted l D ad cy n σ hkr9) (kw_wanted hts ⟨Nat.le_of_ble_eq_true rfl, Nat.le_of_ble_eq_true rfl⟩) rfl rfl (lv_room (Nat.le_of_ble_eq_true rfl)) dX8_readsLaw_46 (Nat.le_refl _) (Nat.le_refl _) (fun H locs hB => ?_)
      refine lv_goto (tgt := 56) hx hb dX8_readsLaw_49 (by decide) ?_
      exact tbm_readsLaw_56 hc hK hA n K30 hK30 σ10 x1 r9 hB (lv_sub hl [0, 1] rfl) hf
def lm_readsLaw_30 (n : Nat) : Nat → MS → Int32 → Option (Int32 × MS)
  | 0 => fun _ _ => none
  | k + 1 => bm_readsLaw_30 n (lm_readsLaw_30 n k)
theorem tlm_readsLaw_30 {p : Program} {l : Launch} {e : Env} {s : State} {m : MethodId} {args : Array Value} {below : List Frame} {meth : Method} {c : Code} {D : va_G} {A : Nat → Prop} {ad : Nat → Nat} {cy : ClassId} {r0 : Int32} {σ0 : MS} (hc : cxB RX8 wsM cX8_readsLaw 3 (some .boolean) p s m args meth c) (hK : va_K D vwCl [(cy, .int)] s) (hA : ∀ q, s.heap.size ≤ q → A q) (n : Nat) : ∀ (k : Nat) (σ : MS) (x1 : Int32) (H : Heap) (locs : List Loc) (ls : Array Slot), mB D ad cy A s.heap σ H locs → lv_has ls 3 [(0, .ref (ad 0)), (1, .int x1)] → lm_readsLaw_30 n k σ x1 = some (r0, σ0) → W p l e rm_readsLaw s m args below meth c H locs 0 0 (MQ below (mQi D ad cy A r0 σ0) args s 0 0 A) (F0 m 30 ls []) := by
  intro k
  induction k with
  | zero =>
    intro σ x1 H locs ls hB hl hf
    have hf : (none : Option (Int32 × MS)) = some (r0, σ0) := hf
    cases hf
  | succ k ih =>
    intro σ x1 H locs ls hB hl hf
    exact tbm_readsLaw_30 hc hK hA n (lm_readsLaw_30 n k) ih σ x1 hB hl hf
def fm_readsLaw (n : Nat) (σ : MS) : Option (Int32 × MS) := sq (mp σ 0 10 0) (fun σ1 => ck (ib (σ1.1 0 21) 10) (sq ((σ1.1 15 (Int32.toNatClampNeg (σ1.1 0 21))) : Int32) (fun y3 => sq (mp σ1 0 22 y3) (fun σ4 => sq (mp σ4 0 23 0) (fun σ5 => sq (mp σ5 0 24 0) (fun σ6 => sq (1 : Int32) (fun y7 => lm_readsLaw_30 n n σ6 y7)))))))
set_option maxRecDepth 100000 in
set_option maxHeartbeats 4000000 in
theorem tbm_readsLaw_0 {p : Program} {l : Launch} {e : Env} {s : State} {m : MethodId} {args : Array Value} {below : List Frame} {meth : Method} {c : Code} {D : va_G} {A : Nat → Prop} {ad : Nat → Nat} {cy : ClassId} {r0 : Int32} {σ0 : MS} (hc : cxB RX8 wsM cX8_readsLaw 3 (some .boolean) p s m args meth c) (hK : va_K D vwCl [(cy, .int)] s) (hA : ∀ q, s.heap.size ≤ q → A q) (n : Nat) (σ : MS) {H : Heap} {locs : List Loc} {ls : Array Slot} (hB : mB D ad cy A s.heap σ H locs) (hl : lv_has ls 3 [(0, .ref (ad 0))]) (hf : fm_readsLaw n σ = some (r0, σ0)) : W p l e rm_readsLaw s m args below meth c H locs 0 0 (MQ below (mQi D ad cy A r0 σ0) args s 0 0 A) (F0 m 0 ls []) := by
  obtain ⟨hx, hb, hml, hown, hts, hr, hlocks⟩ := id hc
  unfold fm_readsLaw at hf
  refine lv_aload_n hx hb dX8_readsLaw_0 rfl (lv_at hl 0 rfl) ?_
  refine lv_iconst (v := 0) hx hb dX8_readsLaw_1 (by decide) ?_
  refine rm_puti hx hb hts inM hown hK hB 10 (Nat.le_of_ble_eq_true rfl) qf_99 (ms_10 _ _ _) rfl pd_10 rfl rfl dX8_readsLaw_2 (fun σ1 eσ1 H locs hB => ?_)
  have hf := sq_e hf σ1 eσ1
  refine lv_aload_n hx hb dX8_readsLaw_5 rfl (lv_at hl 0 rfl) ?_
  refine lv_aload_n hx hb dX8_readsLaw_6 rfl (lv_at hl 0 rfl) ?_
  refine rm_get hx hb hts inM hown hK hB 18 (Nat.le_of_ble_eq_true rfl) qf_56 rfl dX8_readsLaw_7 ?_
  refine lv_aload_n hx hb dX8_readsLaw_10 rfl (lv_at hl 0 rfl) ?_
  refine rm_get hx hb hts inM hown hK hB 21 (Nat.le_of_ble_eq_true rfl) qf_155 rfl dX8_readsLaw_11 ?_
  obtain ⟨k2, hf⟩ := ck_e hf
  refine rm_ald hx hb hK hB 15 rfl k2 dX8_readsLaw_14 ?_
  refine lv_topi (fun y3 ey3 => ?_)
  have hf := sq_e hf y3 ey3
  refine rm_puti hx hb hts inM hown hK hB 22 (Nat.le_of_ble_eq_true rfl) qf_133 (ms_22 _ _ _) rfl pd_22 rfl rfl dX8_readsLaw_15 (fun σ4 eσ4 H locs hB => ?_)
  have hf := sq_e hf σ4 eσ4
  refine lv_aload_n hx hb dX8_readsLaw_18 rfl (lv_at hl 0 rfl) ?_
  refine lv_iconst (v := 0) hx hb dX8_readsLaw_19 (by decide) ?_
  refine rm_puti hx hb hts inM hown hK hB 23 (Nat.le_of_ble_eq_true rfl) qf_136 (ms_23 _ _ _) rfl pd_23 rfl rfl dX8_readsLaw_20 (fun σ5 eσ5 H locs hB => ?_)
  have hf := sq_e hf σ5 eσ5
  refine lv_aload_n hx hb dX8_readsLaw_23 rfl (lv_at hl 0 rfl) ?_
  refine lv_iconst (v := 0) hx hb dX8_readsLaw_24 (by decide) ?_
  refine rm_puti hx hb hts inM hown hK hB 24 (Nat.le_of_ble_eq_true rfl) qf_149 (ms_24 _ _ _) rfl pd_24 rfl rfl dX8_readsLaw_25 (fun σ6 eσ6 H locs hB => ?_)
  have hf := sq_e hf σ6 eσ6
  refine lv_iconst (v := 1) hx hb dX8_readsLaw_28 (by decide) ?_
  refine lv_topi (fun y7 ey7 => ?_)
  have hf := sq_e hf y7 ey7
  refine lv_istore_n (lv' := [(1, .int y7), (0, .ref (ad 0))]) hx hb dX8_readsLaw_29 rfl hl (by decide) rfl (fun ls hl => ?_)
  exact tlm_readsLaw_30 hc hK hA n n σ6 y7 _ _ _ hB (lv_sub hl [1, 0] rfl) hf
theorem cm_readsLaw (l : Launch) (D : va_G) (ad : Nat → Nat) (cy : ClassId) (n : Nat) (σ : MS) {r0 : Int32} {σ0 : MS} (hf : fm_readsLaw n σ = some (r0, σ0)) : mMi l yX8_readsLaw wn_readsLaw rm_readsLaw D ad cy [.ref (ad 0)] σ r0 σ0 :=
  rm_meti (ret := (some .boolean)) (by decide) rfl (Nat.le_of_ble_eq_true rfl) (fun p e s m below meth c A ls hc hK hA hB hl => tbm_readsLaw_0 hc hK hA n σ hB hl hf)
theorem kw_readsLaw {R : Room} {s : State} {args : Array Value} (hts : ∀ w ∈ wsM, w.before args s = true) (hR : rm_readsLaw.frames + 1 ≤ R.frames ∧ 8 + (3 + 11) + rm_readsLaw.locals ≤ R.locals) : CallW R s args RX8 RX8 168 yX8_readsLaw cX8_readsLaw 3 (some .boolean) wn_readsLaw rm_readsLaw 0 0 0 := cwV 0 hts (gM_v qw_103 qw_104 qw_105 qw_37 qw_100) rfl rfl rfl (by decide +kernel) hR
/-! loss -/
abbrev rm_loss : Room := { frames := 5, cells := 0, slots := 0, locals := 107 }
abbrev wn_loss : List Cond := .code yX8_loss cX8_loss 6 (some .int) :: wsM
def bm_loss_67 (n : Nat) (σ : MS) (x1 : Int32) (x2 : Int32) (x3 : Int32) (x4 : Int32) : Option (Int32 × MS) := if (x4 = 0) then (bd (fm_readsLaw n σ) (fun r2 σ3 => sq (mp σ3 0 9 0) (fun σ4 => if (r2 = 0) then (some (((-20) - (σ4.1 0 10)), σ4)) else (ck (ib (σ4.1 0 21) 9) (sq (mp σ4 10 (Int32.toNatClampNeg (σ4.1 0 21)) x1) (fun σ7 => ck (ib (σ7.1 0 21) 9) (sq (mp σ7 11 (Int32.toNatClampNeg (σ7.1 0 21)) x2) (fun σ9 => ck (ib (σ9.1 0 21) 9) (sq (mp σ9 12 (Int32.toNatClampNeg (σ9.1 0 21)) x3) (fun σ11 => ck (ib (σ11.1 0 21) 9) (sq (mp σ11 13 (Int32.toNatClampNeg (σ11.1 0 21)) 0) (fun σ13 => sq (mp σ13 0 21 ((σ13.1 0 21) + 1)) (fun σ14 => ck (ib (σ14.1 0 21) 10) (sq (mp σ14 15 (Int32.toNatClampNeg (σ14.1 0 21)) (σ14.1 0 22)) (fun σ16 => some (((σ16.1 0 21) - 1), σ16)))))))))))))))) else (bd (fm_no n σ x4) (fun r17 σ18 => some (r17, σ18)))
set_option maxRecDepth 100000 in
set_option maxHeartbeats 4000000 in
theorem tbm_loss_67 {p : Program} {l : Launch} {e : Env} {s : State} {m : MethodId} {args : Array Value} {below : List Frame} {meth : Method} {c : Code} {D : va_G} {A : Nat → Prop} {ad : Nat → Nat} {cy : ClassId} {r0 : Int32} {σ0 : MS} (hc : cxB RX8 wsM cX8_loss 6 (some .int) p s m args meth c) (hK : va_K D vwCl [(cy, .int)] s) (hA : ∀ q, s.heap.size ≤ q → A q) (n : Nat) (σ : MS) (x1 : Int32) (x2 : Int32) (x3 : Int32) (x4 : Int32) {H : Heap} {locs : List Loc} {ls : Array Slot} (hB : mB D ad cy A s.heap σ H locs) (hl : lv_has ls 6 [(0, .ref (ad 0)), (1, .int x1), (2, .int x2), (3, .int x3), (4, .int x4)]) (hf : bm_loss_67 n σ x1 x2 x3 x4 = some (r0, σ0)) : W p l e rm_loss s m args below meth c H locs 0 0 (MQ below (mQi D ad cy A r0 σ0) args s 0 0 A) (F0 m 67 ls []) := by
  obtain ⟨hx, hb, hml, hown, hts, hr, hlocks⟩ := id hc
  unfold bm_loss_67 at hf
  refine lv_iload hx hb dX8_loss_67 (lv_at hl 4 rfl) ?_
  refine lv_if_eq (tgt := 79) hx hb dX8_loss_69 (by decide) (fun c1 => ?_) (fun c1 => ?_)
  · have hf := it_t hf c1
    refine lv_aload_n hx hb dX8_loss_79 rfl (lv_at hl 0 rfl) ?_
    obtain ⟨r2, σ3, hkr2, hf⟩ := bd_e hf
    refine rm_calliV (av := []) (rest := []) hx hb hml hown hts hl.1 hK hA hB (cm_readsLaw l D ad cy n σ hkr2) (kw_readsLaw hts ⟨Nat.le_of_ble_eq_true rfl, Nat.le_of_ble_eq_true rfl⟩) rfl rfl (lv_room (Nat.le_of_ble_eq_true rfl)) dX8_loss_80 (Nat.le_refl _) (Nat.le_refl _) (fun H locs hB => ?_)
    refine lv_istore (lv' := [(5, .int r2), (0, .ref (ad 0)), (1, .int x1), (2, .int x2), (3, .int x3), (4, .int x4)]) hx hb dX8_loss_83 hl (by decide) rfl (fun ls hl => ?_)
    refine lv_aload_n hx hb dX8_loss_85 rfl (lv_at hl 1 rfl) ?_
    refine lv_iconst (v := 0) hx hb dX8_loss_86 (by decide) ?_
    refine rm_puti hx hb hts inM hown hK hB 9 (Nat.le_of_ble_eq_true rfl) qf_90 (ms_9 _ _ _) rfl pd_9 rfl rfl dX8_loss_87 (fun σ4 eσ4 H locs hB => ?_)
    have hf := sq_e hf σ4 eσ4
    refine lv_iload hx hb dX8_loss_90 (lv_at hl 0 rfl) ?_
    refine lv_if_ne (tgt := 103) hx hb dX8_loss_92 (by decide) (fun c5 => ?_) (fun c5 => ?_)
    · have hf := it_f hf c5
      refine lv_aload_n hx hb dX8_loss_103 rfl (lv_at hl 1 rfl) ?_
      refine rm_get hx hb hts inM hown hK hB 13 (Nat.le_of_ble_eq_true rfl) qf_41 rfl dX8_loss_104 ?_
      refine lv_aload_n hx hb dX8_loss_107 rfl (lv_at hl 1 rfl) ?_
      refine rm_get hx hb hts inM hown hK hB 21 (Nat.le_of_ble_eq_true rfl) qf_155 rfl dX8_loss_108 ?_
      refine lv_iload_n hx hb dX8_loss_111 rfl (lv_at hl 2 rfl) ?_
      obtain ⟨k6, hf⟩ := ck_e hf
      refine rm_ast hx hb hK hB 10 rfl (msa_10 _ _ _) k6 dX8_loss_112 (fun σ7 eσ7 H locs hB => ?_)
      have hf := sq_e hf σ7 eσ7
      refine lv_aload_n hx hb dX8_loss_113 rfl (lv_at hl 1 rfl) ?_
      refine rm_get hx hb hts inM hown hK hB 14 (Nat.le_of_ble_eq_true rfl) qf_44 rfl dX8_loss_114 ?_
      refine lv_aload_n hx hb dX8_loss_117 rfl (lv_at hl 1 rfl) ?_
      refine rm_get hx hb hts inM hown hK hB 21 (Nat.le_of_ble_eq_true rfl) qf_155 rfl dX8_loss_118 ?_
      refine lv_iload_n hx hb dX8_loss_121 rfl (lv_at hl 3 rfl) ?_
      obtain ⟨k8, hf⟩ := ck_e hf
      refine rm_ast hx hb hK hB 11 rfl (msa_11 _ _ _) k8 dX8_loss_122 (fun σ9 eσ9 H locs hB => ?_)
      have hf := sq_e hf σ9 eσ9
      refine lv_aload_n hx hb dX8_loss_123 rfl (lv_at hl 1 rfl) ?_
      refine rm_get hx hb hts inM hown hK hB 15 (Nat.le_of_ble_eq_true rfl) qf_47 rfl dX8_loss_124 ?_
      refine lv_aload_n hx hb dX8_loss_127 rfl (lv_at hl 1 rfl) ?_
      refine rm_get hx hb hts inM hown hK hB 21 (Nat.le_of_ble_eq_true rfl) qf_155 rfl dX8_loss_128 ?_
      refine lv_iload_n hx hb dX8_loss_131 rfl (lv_at hl 4 rfl) ?_
      obtain ⟨k10, hf⟩ := ck_e hf
      refine rm_ast hx hb hK hB 12 rfl (msa_12 _ _ _) k10 dX8_loss_132 (fun σ11 eσ11 H locs hB => ?_)
      have hf := sq_e hf σ11 eσ11
      refine lv_aload_n hx hb dX8_loss_133 rfl (lv_at hl 1 rfl) ?_
      refine rm_get hx hb hts inM hown hK hB 16 (Nat.le_of_ble_eq_true rfl) qf_50 rfl dX8_loss_134 ?_
      refine lv_aload_n hx hb dX8_loss_137 rfl (lv_at hl 1 rfl) ?_
      refine rm_get hx hb hts inM hown hK hB 21 (Nat.le_of_ble_eq_true rfl) qf_155 rfl dX8_loss_138 ?_
      refine lv_iconst (v := 0) hx hb dX8_loss_141 (by decide) ?_
      obtain ⟨k12, hf⟩ := ck_e hf
      refine rm_ast hx hb hK hB 13 rfl (msa_13 _ _ _) k12 dX8_loss_142 (fun σ13 eσ13 H locs hB => ?_)
      have hf := sq_e hf σ13 eσ13
      refine lv_aload_n hx hb dX8_loss_143 rfl (lv_at hl 1 rfl) ?_
      refine lv_dup hx hb dX8_loss_144 rfl ?_
      refine rm_get hx hb hts inM hown hK hB 21 (Nat.le_of_ble_eq_true rfl) qf_155 rfl dX8_loss_145 ?_
      refine lv_iconst (v := 1) hx hb dX8_loss_148 (by decide) ?_
      refine lv_iadd hx hb dX8_loss_149 ?_
      refine rm_puti hx hb hts inM hown hK hB 21 (Nat.le_of_ble_eq_true rfl) qf_155 (ms_21 _ _ _) rfl pd_21 rfl rfl dX8_loss_150 (fun σ14 eσ14 H locs hB => ?_)
      have hf := sq_e hf σ14 eσ14
      refine lv_aload_n hx hb dX8_loss_153 rfl (lv_at hl 1 rfl) ?_
      refine rm_get hx hb hts inM hown hK hB 18 (Nat.le_of_ble_eq_true rfl) qf_56 rfl dX8_loss_154 ?_
      refine lv_aload_n hx hb dX8_loss_157 rfl (lv_at hl 1 rfl) ?_
      refine rm_get hx hb hts inM hown hK hB 21 (Nat.le_of_ble_eq_true rfl) qf_155 rfl dX8_loss_158 ?_
      refine lv_aload_n hx hb dX8_loss_161 rfl (lv_at hl 1 rfl) ?_
      refine rm_get hx hb hts inM hown hK hB 22 (Nat.le_of_ble_eq_true rfl) qf_133 rfl dX8_loss_162 ?_
      obtain ⟨k15, hf⟩ := ck_e hf
      refine rm_ast hx hb hK hB 15 rfl (msa_15 _ _ _) k15 dX8_loss_165 (fun σ16 eσ16 H locs hB => ?_)
      have hf := sq_e hf σ16 eσ16
      refine lv_aload_n hx hb dX8_loss_166 rfl (lv_at hl 1 rfl) ?_
      refine rm_get hx hb hts inM hown hK hB 21 (Nat.le_of_ble_eq_true rfl) qf_155 rfl dX8_loss_167 ?_
      refine lv_iconst (v := 1) hx hb dX8_loss_170 (by decide) ?_
      refine lv_isub hx hb dX8_loss_171 ?_
      obtain ⟨rfl, rfl⟩ := so_e hf
      exact rm_iret hx hb hr hlocks hK hB dX8_loss_172
    · have hf := it_t hf c5
      refine lv_bipush (v := (-20)) hx hb dX8_loss_95 (by decide) ?_
      refine lv_aload_n hx hb dX8_loss_97 rfl (lv_at hl 1 rfl) ?_
      refine rm_get hx hb hts inM hown hK hB 10 (Nat.le_of_ble_eq_true rfl) qf_99 rfl dX8_loss_98 ?_
      refine lv_isub hx hb dX8_loss_101 ?_
      obtain ⟨rfl, rfl⟩ := so_e hf
      exact rm_iret hx hb hr hlocks hK hB dX8_loss_102
  · have hf := it_f hf c1
    refine lv_aload_n hx hb dX8_loss_72 rfl (lv_at hl 0 rfl) ?_
    refine lv_iload hx hb dX8_loss_73 (lv_at hl 4 rfl) ?_
    obtain ⟨r17, σ18, hkr17, hf⟩ := bd_e hf
    refine rm_calliV (av := [.int x4]) (rest := []) hx hb hml hown hts hl.1 hK hA hB (cm_no l D ad cy n σ x4 hkr17) (kw_no hts ⟨Nat.le_of_ble_eq_true rfl, Nat.le_of_ble_eq_true rfl⟩) rfl rfl (lv_room (Nat.le_of_ble_eq_true rfl)) dX8_loss_75 (Nat.le_refl _) (Nat.le_refl _) (fun H locs hB => ?_)
    obtain ⟨rfl, rfl⟩ := so_e hf
    exact rm_iret hx hb hr hlocks hK hB dX8_loss_78
def bm_loss_47 (n : Nat) (σ : MS) (x1 : Int32) (x2 : Int32) (x3 : Int32) (x4 : Int32) : Option (Int32 × MS) := if (x4 = 0) then (if (x1 = 6) then (if (x2 ≤ x3) then (bm_loss_67 n σ x1 x2 x3 x4) else (sq ((-3) : Int32) (fun y4 => bm_loss_67 n σ x1 x2 x3 y4))) else (bm_loss_67 n σ x1 x2 x3 x4)) else (bm_loss_67 n σ x1 x2 x3 x4)
set_option maxRecDepth 100000 in
set_option maxHeartbeats 4000000 in
theorem tbm_loss_47 {p : Program} {l : Launch} {e : Env} {s : State} {m : MethodId} {args : Array Value} {below : List Frame} {meth : Method} {c : Code} {D : va_G} {A : Nat → Prop} {ad : Nat → Nat} {cy : ClassId} {r0 : Int32} {σ0 : MS} (hc : cxB RX8 wsM cX8_loss 6 (some .int) p s m args meth c) (hK : va_K D vwCl [(cy, .int)] s) (hA : ∀ q, s.heap.size ≤ q → A q) (n : Nat) (σ : MS) (x1 : Int32) (x2 : Int32) (x3 : Int32) (x4 : Int32) {H : Heap} {locs : List Loc} {ls : Array Slot} (hB : mB D ad cy A s.heap σ H locs) (hl : lv_has ls 6 [(0, .ref (ad 0)), (1, .int x1), (2, .int x2), (3, .int x3), (4, .int x4)]) (hf : bm_loss_47 n σ x1 x2 x3 x4 = some (r0, σ0)) : W p l e rm_loss s m args below meth c H locs 0 0 (MQ below (mQi D ad cy A r0 σ0) args s 0 0 A) (F0 m 47 ls []) := by
  obtain ⟨hx, hb, hml, hown, hts, hr, hlocks⟩ := id hc
  unfold bm_loss_47 at hf
  refine lv_iload hx hb dX8_loss_47 (lv_at hl 4 rfl) ?_
  refine lv_if_ne (tgt := 67) hx hb dX8_loss_49 (by decide) (fun c1 => ?_) (fun c1 => ?_)
  · have hf := it_f hf c1
    exact tbm_loss_67 hc hK hA n σ x1 x2 x3 x4 hB (lv_sub hl [0, 1, 2, 3, 4] rfl) hf
  · have hf := it_t hf c1
    refine lv_iload_n hx hb dX8_loss_52 rfl (lv_at hl 1 rfl) ?_
    refine lv_bipush (v := 6) hx hb dX8_loss_53 (by decide) ?_
    refine lv_icmp_ne (tgt := 67) hx hb dX8_loss_55 (by decide) (fun c2 => ?_) (fun c2 => ?_)
    · have hf := it_f hf c2
      exact tbm_loss_67 hc hK hA n σ x1 x2 x3 x4 hB (lv_sub hl [0, 1, 2, 3, 4] rfl) hf
    · have hf := it_t hf c2
      refine lv_iload_n hx hb dX8_loss_58 rfl (lv_at hl 2 rfl) ?_
      refine lv_iload_n hx hb dX8_loss_59 rfl (lv_at hl 3 rfl) ?_
      refine lv_icmp_le (tgt := 67) hx hb dX8_loss_60 (by decide) (fun c3 => ?_) (fun c3 => ?_)
      · have hf := it_t hf c3
        exact tbm_loss_67 hc hK hA n σ x1 x2 x3 x4 hB (lv_sub hl [0, 1, 2, 3, 4] rfl) hf
      · have hf := it_f hf c3
        refine lv_bipush (v := (-3)) hx hb dX8_loss_63 (by decide) ?_
        refine lv_topi (fun y4 ey4 => ?_)
        have hf := sq_e hf y4 ey4
        refine lv_istore (lv' := [(4, .int y4), (0, .ref (ad 0)), (1, .int x1), (2, .int x2), (3, .int x3)]) hx hb dX8_loss_65 hl (by decide) rfl (fun ls hl => ?_)
        exact tbm_loss_67 hc hK hA n σ x1 x2 x3 y4 hB (lv_sub hl [1, 2, 3, 4, 0] rfl) hf
def fm_loss (n : Nat) (σ : MS) (x1 : Int32) (x2 : Int32) (x3 : Int32) : Option (Int32 × MS) := bd (fm_isIn n σ x1 0 6) (fun r1 σ2 => if (r1 = 0) then (bd (fm_no n σ2 (-1)) (fun r9 σ10 => some (r9, σ10))) else (bd (fm_bounds n σ2 x2 9999 x3 9999) (fun r4 σ5 => if (r4 = 0) then (if ((σ5.1 0 21) = 8) then (sq ((-6) : Int32) (fun y8 => bm_loss_47 n σ5 x1 x2 x3 y8)) else (bm_loss_47 n σ5 x1 x2 x3 r4)) else (bm_loss_47 n σ5 x1 x2 x3 r4))))
set_option maxRecDepth 100000 in
set_option maxHeartbeats 4000000 in
theorem tbm_loss_0 {p : Program} {l : Launch} {e : Env} {s : State} {m : MethodId} {args : Array Value} {below : List Frame} {meth : Method} {c : Code} {D : va_G} {A : Nat → Prop} {ad : Nat → Nat} {cy : ClassId} {r0 : Int32} {σ0 : MS} (hc : cxB RX8 wsM cX8_loss 6 (some .int) p s m args meth c) (hK : va_K D vwCl [(cy, .int)] s) (hA : ∀ q, s.heap.size ≤ q → A q) (n : Nat) (σ : MS) (x1 : Int32) (x2 : Int32) (x3 : Int32) {H : Heap} {locs : List Loc} {ls : Array Slot} (hB : mB D ad cy A s.heap σ H locs) (hl : lv_has ls 6 [(0, .ref (ad 0)), (1, .int x1), (2, .int x2), (3, .int x3)]) (hf : fm_loss n σ x1 x2 x3 = some (r0, σ0)) : W p l e rm_loss s m args below meth c H locs 0 0 (MQ below (mQi D ad cy A r0 σ0) args s 0 0 A) (F0 m 0 ls []) := by
  obtain ⟨hx, hb, hml, hown, hts, hr, hlocks⟩ := id hc
  unfold fm_loss at hf
  refine lv_iload_n hx hb dX8_loss_0 rfl (lv_at hl 1 rfl) ?_
  refine lv_iconst (v := 0) hx hb dX8_loss_1 (by decide) ?_
  refine lv_bipush (v := 6) hx hb dX8_loss_2 (by decide) ?_
  obtain ⟨r1, σ2, hkr1, hf⟩ := bd_e hf
  refine rm_calliS (av := [.int x1, .int 0, .int 6]) (rest := []) hx hb hml hown hts hl.1 hK hA hB (cm_isIn l D ad cy n σ x1 0 6 hkr1) (kw_isIn hts ⟨Nat.le_of_ble_eq_true rfl, Nat.le_of_ble_eq_true rfl⟩) rfl rfl (lv_room (Nat.le_of_ble_eq_true rfl)) dX8_loss_4 (Nat.le_refl _) (Nat.le_refl _) (fun H locs hB => ?_)
  refine lv_if_ne (tgt := 16) hx hb dX8_loss_7 (by decide) (fun c3 => ?_) (fun c3 => ?_)
  · have hf := it_f hf c3
    refine lv_iload_n hx hb dX8_loss_16 rfl (lv_at hl 2 rfl) ?_
    refine lv_sipush (v := 9999) hx hb dX8_loss_17 (by decide) ?_
    refine lv_iload_n hx hb dX8_loss_20 rfl (lv_at hl 3 rfl) ?_
    refine lv_sipush (v := 9999) hx hb dX8_loss_21 (by decide) ?_
    obtain ⟨r4, σ5, hkr4, hf⟩ := bd_e hf
    refine rm_calliS (av := [.int x2, .int 9999, .int x3, .int 9999]) (rest := []) hx hb hml hown hts hl.1 hK hA hB (cm_bounds l D ad cy n σ2 x2 9999 x3 9999 hkr4) (kw_bounds hts ⟨Nat.le_of_ble_eq_true rfl, Nat.le_of_ble_eq_true rfl⟩) rfl rfl (lv_room (Nat.le_of_ble_eq_true rfl)) dX8_loss_24 (Nat.le_refl _) (Nat.le_refl _) (fun H locs hB => ?_)
    refine lv_istore (lv' := [(4, .int r4), (0, .ref (ad 0)), (1, .int x1), (2, .int x2), (3, .int x3)]) hx hb dX8_loss_27 hl (by decide) rfl (fun ls hl => ?_)
    refine lv_iload hx hb dX8_loss_29 (lv_at hl 0 rfl) ?_
    refine lv_if_ne (tgt := 47) hx hb dX8_loss_31 (by decide) (fun c6 => ?_) (fun c6 => ?_)
    · have hf := it_f hf c6
      exact tbm_loss_47 hc hK hA n σ5 x1 x2 x3 r4 hB (lv_sub hl [1, 2, 3, 4, 0] rfl) hf
    · have hf := it_t hf c6
      refine lv_aload_n hx hb dX8_loss_34 rfl (lv_at hl 1 rfl) ?_
      refine rm_get hx hb hts inM hown hK hB 21 (Nat.le_of_ble_eq_true rfl) qf_155 rfl dX8_loss_35 ?_
      refine lv_bipush (v := 8) hx hb dX8_loss_38 (by decide) ?_
      refine lv_icmp_ne (tgt := 47) hx hb dX8_loss_40 (by decide) (fun c7 => ?_) (fun c7 => ?_)
      · have hf := it_f hf c7
        exact tbm_loss_47 hc hK hA n σ5 x1 x2 x3 r4 hB (lv_sub hl [1, 2, 3, 4, 0] rfl) hf
      · have hf := it_t hf c7
        refine lv_bipush (v := (-6)) hx hb dX8_loss_43 (by decide) ?_
        refine lv_topi (fun y8 ey8 => ?_)
        have hf := sq_e hf y8 ey8
        refine lv_istore (lv' := [(4, .int y8), (0, .ref (ad 0)), (1, .int x1), (2, .int x2), (3, .int x3)]) hx hb dX8_loss_45 hl (by decide) rfl (fun ls hl => ?_)
        exact tbm_loss_47 hc hK hA n σ5 x1 x2 x3 y8 hB (lv_sub hl [1, 2, 3, 4, 0] rfl) hf
  · have hf := it_t hf c3
    refine lv_aload_n hx hb dX8_loss_10 rfl (lv_at hl 0 rfl) ?_
    refine lv_iconst (v := (-1)) hx hb dX8_loss_11 (by decide) ?_
    obtain ⟨r9, σ10, hkr9, hf⟩ := bd_e hf
    refine rm_calliV (av := [.int (-1)]) (rest := []) hx hb hml hown hts hl.1 hK hA hB (cm_no l D ad cy n σ2 (-1) hkr9) (kw_no hts ⟨Nat.le_of_ble_eq_true rfl, Nat.le_of_ble_eq_true rfl⟩) rfl rfl (lv_room (Nat.le_of_ble_eq_true rfl)) dX8_loss_12 (Nat.le_refl _) (Nat.le_refl _) (fun H locs hB => ?_)
    obtain ⟨rfl, rfl⟩ := so_e hf
    exact rm_iret hx hb hr hlocks hK hB dX8_loss_15
theorem cm_loss (l : Launch) (D : va_G) (ad : Nat → Nat) (cy : ClassId) (n : Nat) (σ : MS) (x1 : Int32) (x2 : Int32) (x3 : Int32) {r0 : Int32} {σ0 : MS} (hf : fm_loss n σ x1 x2 x3 = some (r0, σ0)) : mMi l yX8_loss wn_loss rm_loss D ad cy [.ref (ad 0), .int x1, .int x2, .int x3] σ r0 σ0 :=
  rm_meti (ret := (some .int)) (by decide) rfl (Nat.le_of_ble_eq_true rfl) (fun p e s m below meth c A ls hc hK hA hB hl => tbm_loss_0 hc hK hA n σ x1 x2 x3 hB hl hf)
/-! isLoss -/
abbrev rm_isLoss : Room := { frames := 0, cells := 0, slots := 0, locals := 0 }
abbrev wn_isLoss : List Cond := .code yX8_isLoss cX8_isLoss 2 (some .boolean) :: wsM
def fm_isLoss (n : Nat) (σ : MS) (x1 : Int32) : Option (Int32 × MS) := if (x1 < 0) then (some (0, σ)) else (if ((σ.1 0 21) ≤ x1) then (some (0, σ)) else (some (1, σ)))
set_option maxRecDepth 100000 in
set_option maxHeartbeats 4000000 in
theorem tbm_isLoss_0 {p : Program} {l : Launch} {e : Env} {s : State} {m : MethodId} {args : Array Value} {below : List Frame} {meth : Method} {c : Code} {D : va_G} {A : Nat → Prop} {ad : Nat → Nat} {cy : ClassId} {r0 : Int32} {σ0 : MS} (hc : cxB RX8 wsM cX8_isLoss 2 (some .boolean) p s m args meth c) (hK : va_K D vwCl [(cy, .int)] s) (hA : ∀ q, s.heap.size ≤ q → A q) (n : Nat) (σ : MS) (x1 : Int32) {H : Heap} {locs : List Loc} {ls : Array Slot} (hB : mB D ad cy A s.heap σ H locs) (hl : lv_has ls 2 [(0, .ref (ad 0)), (1, .int x1)]) (hf : fm_isLoss n σ x1 = some (r0, σ0)) : W p l e rm_isLoss s m args below meth c H locs 0 0 (MQ below (mQi D ad cy A r0 σ0) args s 0 0 A) (F0 m 0 ls []) := by
  obtain ⟨hx, hb, hml, hown, hts, hr, hlocks⟩ := id hc
  unfold fm_isLoss at hf
  refine lv_iload_n hx hb dX8_isLoss_0 rfl (lv_at hl 1 rfl) ?_
  refine lv_if_lt (tgt := 16) hx hb dX8_isLoss_1 (by decide) (fun c1 => ?_) (fun c1 => ?_)
  · have hf := it_t hf c1
    refine lv_iconst (v := 0) hx hb dX8_isLoss_16 (by decide) ?_
    obtain ⟨rfl, rfl⟩ := so_e hf
    exact rm_zret hx hb hr hlocks rfl hK hB dX8_isLoss_17
  · have hf := it_f hf c1
    refine lv_iload_n hx hb dX8_isLoss_4 rfl (lv_at hl 1 rfl) ?_
    refine lv_aload_n hx hb dX8_isLoss_5 rfl (lv_at hl 0 rfl) ?_
    refine rm_get hx hb hts inM hown hK hB 21 (Nat.le_of_ble_eq_true rfl) qf_155 rfl dX8_isLoss_6 ?_
    refine lv_icmp_ge (tgt := 16) hx hb dX8_isLoss_9 (by decide) (fun c2 => ?_) (fun c2 => ?_)
    · have hf := it_t hf c2
      refine lv_iconst (v := 0) hx hb dX8_isLoss_16 (by decide) ?_
      obtain ⟨rfl, rfl⟩ := so_e hf
      exact rm_zret hx hb hr hlocks rfl hK hB dX8_isLoss_17
    · have hf := it_f hf c2
      refine lv_iconst (v := 1) hx hb dX8_isLoss_12 (by decide) ?_
      refine lv_goto (tgt := 17) hx hb dX8_isLoss_13 (by decide) ?_
      obtain ⟨rfl, rfl⟩ := so_e hf
      exact rm_zret hx hb hr hlocks rfl hK hB dX8_isLoss_17
theorem cm_isLoss (l : Launch) (D : va_G) (ad : Nat → Nat) (cy : ClassId) (n : Nat) (σ : MS) (x1 : Int32) {r0 : Int32} {σ0 : MS} (hf : fm_isLoss n σ x1 = some (r0, σ0)) : mMi l yX8_isLoss wn_isLoss rm_isLoss D ad cy [.ref (ad 0), .int x1] σ r0 σ0 :=
  rm_meti (ret := (some .boolean)) (by decide) rfl (Nat.le_of_ble_eq_true rfl) (fun p e s m below meth c A ls hc hK hA hB hl => tbm_isLoss_0 hc hK hA n σ x1 hB hl hf)
theorem kw_isLoss {R : Room} {s : State} {args : Array Value} (hts : ∀ w ∈ wsM, w.before args s = true) (hR : rm_isLoss.frames + 1 ≤ R.frames ∧ 8 + (2 + 11) + rm_isLoss.locals ≤ R.locals) : CallW R s args RX8 RX8 171 yX8_isLoss cX8_isLoss 2 (some .boolean) wn_isLoss rm_isLoss 0 0 1 := cwV 1 hts (gM_v qw_107 qw_108 qw_109 qw_37 qw_106) rfl rfl rfl (by decide +kernel) hR
/-! lossOf -/
abbrev rm_lossOf : Room := { frames := 1, cells := 0, slots := 0, locals := 21 }
abbrev wn_lossOf : List Cond := .code yX8_lossOf cX8_lossOf 3 (some .int) :: wsM
def fm_lossOf (n : Nat) (σ : MS) (x1 : Int32) (x2 : Int32) : Option (Int32 × MS) := bd (fm_isLoss n σ x1) (fun r1 σ2 => if (r1 = 0) then (bd (fm_no n σ2 (-1)) (fun r18 σ19 => some (r18, σ19))) else (if (x2 = 0) then (ck (ib x1 9) (sq ((σ2.1 10 (Int32.toNatClampNeg x1)) : Int32) (fun y17 => some (y17, σ2)))) else (if (x2 = 1) then (ck (ib x1 9) (sq ((σ2.1 11 (Int32.toNatClampNeg x1)) : Int32) (fun y15 => some (y15, σ2)))) else (if (x2 = 2) then (ck (ib x1 9) (sq ((σ2.1 12 (Int32.toNatClampNeg x1)) : Int32) (fun y13 => some (y13, σ2)))) else (if (x2 = 3) then (ck (ib x1 9) (sq ((σ2.1 13 (Int32.toNatClampNeg x1)) : Int32) (fun y11 => some (y11, σ2)))) else (bd (fm_no n σ2 (-2)) (fun r4 σ5 => some (r4, σ5))))))))
set_option maxRecDepth 100000 in
set_option maxHeartbeats 4000000 in
theorem tbm_lossOf_0 {p : Program} {l : Launch} {e : Env} {s : State} {m : MethodId} {args : Array Value} {below : List Frame} {meth : Method} {c : Code} {D : va_G} {A : Nat → Prop} {ad : Nat → Nat} {cy : ClassId} {r0 : Int32} {σ0 : MS} (hc : cxB RX8 wsM cX8_lossOf 3 (some .int) p s m args meth c) (hK : va_K D vwCl [(cy, .int)] s) (hA : ∀ q, s.heap.size ≤ q → A q) (n : Nat) (σ : MS) (x1 : Int32) (x2 : Int32) {H : Heap} {locs : List Loc} {ls : Array Slot} (hB : mB D ad cy A s.heap σ H locs) (hl : lv_has ls 3 [(0, .ref (ad 0)), (1, .int x1), (2, .int x2)]) (hf : fm_lossOf n σ x1 x2 = some (r0, σ0)) : W p l e rm_lossOf s m args below meth c H locs 0 0 (MQ below (mQi D ad cy A r0 σ0) args s 0 0 A) (F0 m 0 ls []) := by
  obtain ⟨hx, hb, hml, hown, hts, hr, hlocks⟩ := id hc
  unfold fm_lossOf at hf
  refine lv_aload_n hx hb dX8_lossOf_0 rfl (lv_at hl 0 rfl) ?_
  refine lv_iload_n hx hb dX8_lossOf_1 rfl (lv_at hl 1 rfl) ?_
  obtain ⟨r1, σ2, hkr1, hf⟩ := bd_e hf
  refine rm_calliV (av := [.int x1]) (rest := []) hx hb hml hown hts hl.1 hK hA hB (cm_isLoss l D ad cy n σ x1 hkr1) (kw_isLoss hts ⟨Nat.le_of_ble_eq_true rfl, Nat.le_of_ble_eq_true rfl⟩) rfl rfl (lv_room (Nat.le_of_ble_eq_true rfl)) dX8_lossOf_2 (Nat.le_refl _) (Nat.le_refl _) (fun H locs hB => ?_)
  refine lv_if_ne (tgt := 14) hx hb dX8_lossOf_5 (by decide) (fun c3 => ?_) (fun c3 => ?_)
  · have hf := it_f hf c3
    refine lv_iload_n hx hb dX8_lossOf_14 rfl (lv_at hl 2 rfl) ?_
    by_cases c6 : x2 = 0
    · have hf := it_t hf c6
      refine lv_tableIn (tgt := 44) hx hb dX8_lossOf_15 (by rw [c6]; decide) (by rw [c6]; decide) (by rw [c6]; rfl) (by decide) ?_
      refine lv_aload_n hx hb dX8_lossOf_44 rfl (lv_at hl 0 rfl) ?_
      refine rm_get hx hb hts inM hown hK hB 13 (Nat.le_of_ble_eq_true rfl) qf_41 rfl dX8_lossOf_45 ?_
      refine lv_iload_n hx hb dX8_lossOf_48 rfl (lv_at hl 1 rfl) ?_
      obtain ⟨k16, hf⟩ := ck_e hf
      refine rm_ald hx hb hK hB 10 rfl k16 dX8_lossOf_49 ?_
      refine lv_topi (fun y17 ey17 => ?_)
      have hf := sq_e hf y17 ey17
      obtain ⟨rfl, rfl⟩ := so_e hf
      exact rm_iret hx hb hr hlocks hK hB dX8_lossOf_50
    · have hf := it_f hf c6
      by_cases c7 : x2 = 1
      · have hf := it_t hf c7
        refine lv_tableIn (tgt := 51) hx hb dX8_lossOf_15 (by rw [c7]; decide) (by rw [c7]; decide) (by rw [c7]; rfl) (by decide) ?_
        refine lv_aload_n hx hb dX8_lossOf_51 rfl (lv_at hl 0 rfl) ?_
        refine rm_get hx hb hts inM hown hK hB 14 (Nat.le_of_ble_eq_true rfl) qf_44 rfl dX8_lossOf_52 ?_
        refine lv_iload_n hx hb dX8_lossOf_55 rfl (lv_at hl 1 rfl) ?_
        obtain ⟨k14, hf⟩ := ck_e hf
        refine rm_ald hx hb hK hB 11 rfl k14 dX8_lossOf_56 ?_
        refine lv_topi (fun y15 ey15 => ?_)
        have hf := sq_e hf y15 ey15
        obtain ⟨rfl, rfl⟩ := so_e hf
        exact rm_iret hx hb hr hlocks hK hB dX8_lossOf_57
      · have hf := it_f hf c7
        by_cases c8 : x2 = 2
        · have hf := it_t hf c8
          refine lv_tableIn (tgt := 58) hx hb dX8_lossOf_15 (by rw [c8]; decide) (by rw [c8]; decide) (by rw [c8]; rfl) (by decide) ?_
          refine lv_aload_n hx hb dX8_lossOf_58 rfl (lv_at hl 0 rfl) ?_
          refine rm_get hx hb hts inM hown hK hB 15 (Nat.le_of_ble_eq_true rfl) qf_47 rfl dX8_lossOf_59 ?_
          refine lv_iload_n hx hb dX8_lossOf_62 rfl (lv_at hl 1 rfl) ?_
          obtain ⟨k12, hf⟩ := ck_e hf
          refine rm_ald hx hb hK hB 12 rfl k12 dX8_lossOf_63 ?_
          refine lv_topi (fun y13 ey13 => ?_)
          have hf := sq_e hf y13 ey13
          obtain ⟨rfl, rfl⟩ := so_e hf
          exact rm_iret hx hb hr hlocks hK hB dX8_lossOf_64
        · have hf := it_f hf c8
          by_cases c9 : x2 = 3
          · have hf := it_t hf c9
            refine lv_tableIn (tgt := 65) hx hb dX8_lossOf_15 (by rw [c9]; decide) (by rw [c9]; decide) (by rw [c9]; rfl) (by decide) ?_
            refine lv_aload_n hx hb dX8_lossOf_65 rfl (lv_at hl 0 rfl) ?_
            refine rm_get hx hb hts inM hown hK hB 16 (Nat.le_of_ble_eq_true rfl) qf_50 rfl dX8_lossOf_66 ?_
            refine lv_iload_n hx hb dX8_lossOf_69 rfl (lv_at hl 1 rfl) ?_
            obtain ⟨k10, hf⟩ := ck_e hf
            refine rm_ald hx hb hK hB 13 rfl k10 dX8_lossOf_70 ?_
            refine lv_topi (fun y11 ey11 => ?_)
            have hf := sq_e hf y11 ey11
            obtain ⟨rfl, rfl⟩ := so_e hf
            exact rm_iret hx hb hr hlocks hK hB dX8_lossOf_71
          · have hf := it_f hf c9
            refine sw_d (tgt := 72) hx hb dX8_lossOf_15 (by have n_0 := lv_neT c6 (a := 0) (by decide); have n_1 := lv_neT c7 (a := 1) (by decide); have n_2 := lv_neT c8 (a := 2) (by decide); have n_3 := lv_neT c9 (a := 3) (by decide); rcases (show (x2).toInt < 0 ∨ 3 < (x2).toInt by omega) with q | q; exact Or.inl q; exact Or.inr (Or.inl q)) (by decide) ?_
            refine lv_aload_n hx hb dX8_lossOf_72 rfl (lv_at hl 0 rfl) ?_
            refine lv_bipush (v := (-2)) hx hb dX8_lossOf_73 (by decide) ?_
            obtain ⟨r4, σ5, hkr4, hf⟩ := bd_e hf
            refine rm_calliV (av := [.int (-2)]) (rest := []) hx hb hml hown hts hl.1 hK hA hB (cm_no l D ad cy n σ2 (-2) hkr4) (kw_no hts ⟨Nat.le_of_ble_eq_true rfl, Nat.le_of_ble_eq_true rfl⟩) rfl rfl (lv_room (Nat.le_of_ble_eq_true rfl)) dX8_lossOf_75 (Nat.le_refl _) (Nat.le_refl _) (fun H locs hB => ?_)
            obtain ⟨rfl, rfl⟩ := so_e hf
            exact rm_iret hx hb hr hlocks hK hB dX8_lossOf_78
  · have hf := it_t hf c3
    refine lv_aload_n hx hb dX8_lossOf_8 rfl (lv_at hl 0 rfl) ?_
    refine lv_iconst (v := (-1)) hx hb dX8_lossOf_9 (by decide) ?_
    obtain ⟨r18, σ19, hkr18, hf⟩ := bd_e hf
    refine rm_calliV (av := [.int (-1)]) (rest := []) hx hb hml hown hts hl.1 hK hA hB (cm_no l D ad cy n σ2 (-1) hkr18) (kw_no hts ⟨Nat.le_of_ble_eq_true rfl, Nat.le_of_ble_eq_true rfl⟩) rfl rfl (lv_room (Nat.le_of_ble_eq_true rfl)) dX8_lossOf_10 (Nat.le_refl _) (Nat.le_refl _) (fun H locs hB => ?_)
    obtain ⟨rfl, rfl⟩ := so_e hf
    exact rm_iret hx hb hr hlocks hK hB dX8_lossOf_13
theorem cm_lossOf (l : Launch) (D : va_G) (ad : Nat → Nat) (cy : ClassId) (n : Nat) (σ : MS) (x1 : Int32) (x2 : Int32) {r0 : Int32} {σ0 : MS} (hf : fm_lossOf n σ x1 x2 = some (r0, σ0)) : mMi l yX8_lossOf wn_lossOf rm_lossOf D ad cy [.ref (ad 0), .int x1, .int x2] σ r0 σ0 :=
  rm_meti (ret := (some .int)) (by decide) rfl (Nat.le_of_ble_eq_true rfl) (fun p e s m below meth c A ls hc hK hA hB hl => tbm_lossOf_0 hc hK hA n σ x1 x2 hB hl hf)
/-! floor -/
abbrev rm_floor : Room := { frames := 1, cells := 0, slots := 0, locals := 22 }
abbrev wn_floor : List Cond := .code yX8_floor cX8_floor 6 (some .int) :: wsM
def bm_floor_69 (n : Nat) (σ : MS) (x1 : Int32) (x2 : Int32) (x3 : Int32) (t0 : Int32) : Option (Int32 × MS) := if (x2 = 0) then (ck (ib x1 4) (sq (mp σ 8 (Int32.toNatClampNeg x1) x3) (fun σ5 => some (t0, σ5)))) else (ck (ib x1 4) (sq (mp σ 9 (Int32.toNatClampNeg x1) x3) (fun σ3 => some (t0, σ3))))
set_option maxRecDepth 100000 in
set_option maxHeartbeats 4000000 in
theorem tbm_floor_69 {p : Program} {l : Launch} {e : Env} {s : State} {m : MethodId} {args : Array Value} {below : List Frame} {meth : Method} {c : Code} {D : va_G} {A : Nat → Prop} {ad : Nat → Nat} {cy : ClassId} {r0 : Int32} {σ0 : MS} (hc : cxB RX8 wsM cX8_floor 6 (some .int) p s m args meth c) (hK : va_K D vwCl [(cy, .int)] s) (hA : ∀ q, s.heap.size ≤ q → A q) (n : Nat) (σ : MS) (x1 : Int32) (x2 : Int32) (x3 : Int32) (t0 : Int32) {H : Heap} {locs : List Loc} {ls : Array Slot} (hB : mB D ad cy A s.heap σ H locs) (hl : lv_has ls 6 [(0, .ref (ad 0)), (1, .int x1), (2, .int x2), (3, .int x3)]) (hf : bm_floor_69 n σ x1 x2 x3 t0 = some (r0, σ0)) : W p l e rm_floor s m args below meth c H locs 0 0 (MQ below (mQi D ad cy A r0 σ0) args s 0 0 A) (F0 m 69 ls [.int t0]) := by
  obtain ⟨hx, hb, hml, hown, hts, hr, hlocks⟩ := id hc
  unfold bm_floor_69 at hf
  refine lv_istore (lv' := [(5, .int t0), (0, .ref (ad 0)), (1, .int x1), (2, .int x2), (3, .int x3)]) hx hb dX8_floor_69 hl (by decide) rfl (fun ls hl => ?_)
  refine lv_iload_n hx hb dX8_floor_71 rfl (lv_at hl 3 rfl) ?_
  refine lv_if_ne (tgt := 85) hx hb dX8_floor_72 (by decide) (fun c1 => ?_) (fun c1 => ?_)
  · have hf := it_f hf c1
    refine lv_aload_n hx hb dX8_floor_85 rfl (lv_at hl 1 rfl) ?_
    refine rm_get hx hb hts inM hown hK hB 8 (Nat.le_of_ble_eq_true rfl) qf_34 rfl dX8_floor_86 ?_
    refine lv_iload_n hx hb dX8_floor_89 rfl (lv_at hl 2 rfl) ?_
    refine lv_iload_n hx hb dX8_floor_90 rfl (lv_at hl 4 rfl) ?_
    obtain ⟨k2, hf⟩ := ck_e hf
    refine rm_ast hx hb hK hB 9 rfl (msa_9 _ _ _) k2 dX8_floor_91 (fun σ3 eσ3 H locs hB => ?_)
    have hf := sq_e hf σ3 eσ3
    refine lv_iload hx hb dX8_floor_92 (lv_at hl 0 rfl) ?_
    obtain ⟨rfl, rfl⟩ := so_e hf
    exact rm_iret hx hb hr hlocks hK hB dX8_floor_94
  · have hf := it_t hf c1
    refine lv_aload_n hx hb dX8_floor_75 rfl (lv_at hl 1 rfl) ?_
    refine rm_get hx hb hts inM hown hK hB 7 (Nat.le_of_ble_eq_true rfl) qf_31 rfl dX8_floor_76 ?_
    refine lv_iload_n hx hb dX8_floor_79 rfl (lv_at hl 2 rfl) ?_
    refine lv_iload_n hx hb dX8_floor_80 rfl (lv_at hl 4 rfl) ?_
    obtain ⟨k4, hf⟩ := ck_e hf
    refine rm_ast hx hb hK hB 8 rfl (msa_8 _ _ _) k4 dX8_floor_81 (fun σ5 eσ5 H locs hB => ?_)
    have hf := sq_e hf σ5 eσ5
    refine lv_goto (tgt := 92) hx hb dX8_floor_82 (by decide) ?_
    refine lv_iload hx hb dX8_floor_92 (lv_at hl 0 rfl) ?_
    obtain ⟨rfl, rfl⟩ := so_e hf
    exact rm_iret hx hb hr hlocks hK hB dX8_floor_94
def fm_floor (n : Nat) (σ : MS) (x1 : Int32) (x2 : Int32) (x3 : Int32) : Option (Int32 × MS) := bd (fm_isFloor n σ x1) (fun r1 σ2 => if (r1 = 0) then (bd (fm_no n σ2 (-1)) (fun r19 σ20 => some (r19, σ20))) else (bd (fm_isIn n σ2 x2 0 1) (fun r4 σ5 => if (r4 = 0) then (bd (fm_no n σ5 (-2)) (fun r17 σ18 => some (r17, σ18))) else (bd (fm_bound n σ5 x3 0 9) (fun r7 σ8 => if (r7 = 0) then (if (x2 = 0) then (ck (ib x1 4) (sq ((σ8.1 8 (Int32.toNatClampNeg x1)) : Int32) (fun y14 => bm_floor_69 n σ8 x1 x2 x3 y14))) else (ck (ib x1 4) (sq ((σ8.1 9 (Int32.toNatClampNeg x1)) : Int32) (fun y12 => bm_floor_69 n σ8 x1 x2 x3 y12)))) else (bd (fm_no n σ8 r7) (fun r15 σ16 => some (r15, σ16))))))))
set_option maxRecDepth 100000 in
set_option maxHeartbeats 4000000 in
theorem tbm_floor_0 {p : Program} {l : Launch} {e : Env} {s : State} {m : MethodId} {args : Array Value} {below : List Frame} {meth : Method} {c : Code} {D : va_G} {A : Nat → Prop} {ad : Nat → Nat} {cy : ClassId} {r0 : Int32} {σ0 : MS} (hc : cxB RX8 wsM cX8_floor 6 (some .int) p s m args meth c) (hK : va_K D vwCl [(cy, .int)] s) (hA : ∀ q, s.heap.size ≤ q → A q) (n : Nat) (σ : MS) (x1 : Int32) (x2 : Int32) (x3 : Int32) {H : Heap} {locs : List Loc} {ls : Array Slot} (hB : mB D ad cy A s.heap σ H locs) (hl : lv_has ls 6 [(0, .ref (ad 0)), (1, .int x1), (2, .int x2), (3, .int x3)]) (hf : fm_floor n σ x1 x2 x3 = some (r0, σ0)) : W p l e rm_floor s m args below meth c H locs 0 0 (MQ below (mQi D ad cy A r0 σ0) args s 0 0 A) (F0 m 0 ls []) := by
  obtain ⟨hx, hb, hml, hown, hts, hr, hlocks⟩ := id hc
  unfold fm_floor at hf
  refine lv_iload_n hx hb dX8_floor_0 rfl (lv_at hl 1 rfl) ?_
  obtain ⟨r1, σ2, hkr1, hf⟩ := bd_e hf
  refine rm_calliS (av := [.int x1]) (rest := []) hx hb hml hown hts hl.1 hK hA hB (cm_isFloor l D ad cy n σ x1 hkr1) (kw_isFloor hts ⟨Nat.le_of_ble_eq_true rfl, Nat.le_of_ble_eq_true rfl⟩) rfl rfl (lv_room (Nat.le_of_ble_eq_true rfl)) dX8_floor_1 (Nat.le_refl _) (Nat.le_refl _) (fun H locs hB => ?_)
  refine lv_if_ne (tgt := 13) hx hb dX8_floor_4 (by decide) (fun c3 => ?_) (fun c3 => ?_)
  · have hf := it_f hf c3
    refine lv_iload_n hx hb dX8_floor_13 rfl (lv_at hl 2 rfl) ?_
    refine lv_iconst (v := 0) hx hb dX8_floor_14 (by decide) ?_
    refine lv_iconst (v := 1) hx hb dX8_floor_15 (by decide) ?_
    obtain ⟨r4, σ5, hkr4, hf⟩ := bd_e hf
    refine rm_calliS (av := [.int x2, .int 0, .int 1]) (rest := []) hx hb hml hown hts hl.1 hK hA hB (cm_isIn l D ad cy n σ2 x2 0 1 hkr4) (kw_isIn hts ⟨Nat.le_of_ble_eq_true rfl, Nat.le_of_ble_eq_true rfl⟩) rfl rfl (lv_room (Nat.le_of_ble_eq_true rfl)) dX8_floor_16 (Nat.le_refl _) (Nat.le_refl _) (fun H locs hB => ?_)
    refine lv_if_ne (tgt := 29) hx hb dX8_floor_19 (by decide) (fun c6 => ?_) (fun c6 => ?_)
    · have hf := it_f hf c6
      refine lv_iload_n hx hb dX8_floor_29 rfl (lv_at hl 3 rfl) ?_
      refine lv_iconst (v := 0) hx hb dX8_floor_30 (by decide) ?_
      refine lv_bipush (v := 9) hx hb dX8_floor_31 (by decide) ?_
      obtain ⟨r7, σ8, hkr7, hf⟩ := bd_e hf
      refine rm_calliS (av := [.int x3, .int 0, .int 9]) (rest := []) hx hb hml hown hts hl.1 hK hA hB (cm_bound l D ad cy n σ5 x3 0 9 hkr7) (kw_bound hts ⟨Nat.le_of_ble_eq_true rfl, Nat.le_of_ble_eq_true rfl⟩) rfl rfl (lv_room (Nat.le_of_ble_eq_true rfl)) dX8_floor_33 (Nat.le_refl _) (Nat.le_refl _) (fun H locs hB => ?_)
      refine lv_istore (lv' := [(4, .int r7), (0, .ref (ad 0)), (1, .int x1), (2, .int x2), (3, .int x3)]) hx hb dX8_floor_36 hl (by decide) rfl (fun ls hl => ?_)
      refine lv_iload hx hb dX8_floor_38 (lv_at hl 0 rfl) ?_
      refine lv_if_eq (tgt := 50) hx hb dX8_floor_40 (by decide) (fun c9 => ?_) (fun c9 => ?_)
      · have hf := it_t hf c9
        refine lv_iload_n hx hb dX8_floor_50 rfl (lv_at hl 3 rfl) ?_
        refine lv_if_ne (tgt := 63) hx hb dX8_floor_51 (by decide) (fun c10 => ?_) (fun c10 => ?_)
        · have hf := it_f hf c10
          refine lv_aload_n hx hb dX8_floor_63 rfl (lv_at hl 1 rfl) ?_
          refine rm_get hx hb hts inM hown hK hB 8 (Nat.le_of_ble_eq_true rfl) qf_34 rfl dX8_floor_64 ?_
          refine lv_iload_n hx hb dX8_floor_67 rfl (lv_at hl 2 rfl) ?_
          obtain ⟨k11, hf⟩ := ck_e hf
          refine rm_ald hx hb hK hB 9 rfl k11 dX8_floor_68 ?_
          refine lv_topi (fun y12 ey12 => ?_)
          have hf := sq_e hf y12 ey12
          exact tbm_floor_69 hc hK hA n σ8 x1 x2 x3 y12 hB (lv_sub hl [1, 2, 3, 4] rfl) hf
        · have hf := it_t hf c10
          refine lv_aload_n hx hb dX8_floor_54 rfl (lv_at hl 1 rfl) ?_
          refine rm_get hx hb hts inM hown hK hB 7 (Nat.le_of_ble_eq_true rfl) qf_31 rfl dX8_floor_55 ?_
          refine lv_iload_n hx hb dX8_floor_58 rfl (lv_at hl 2 rfl) ?_
          obtain ⟨k13, hf⟩ := ck_e hf
          refine rm_ald hx hb hK hB 8 rfl k13 dX8_floor_59 ?_
          refine lv_topi (fun y14 ey14 => ?_)
          have hf := sq_e hf y14 ey14
          refine lv_goto (tgt := 69) hx hb dX8_floor_60 (by decide) ?_
          exact tbm_floor_69 hc hK hA n σ8 x1 x2 x3 y14 hB (lv_sub hl [1, 2, 3, 4] rfl) hf
      · have hf := it_f hf c9
        refine lv_aload_n hx hb dX8_floor_43 rfl (lv_at hl 1 rfl) ?_
        refine lv_iload hx hb dX8_floor_44 (lv_at hl 0 rfl) ?_
        obtain ⟨r15, σ16, hkr15, hf⟩ := bd_e hf
        refine rm_calliV (av := [.int r7]) (rest := []) hx hb hml hown hts hl.1 hK hA hB (cm_no l D ad cy n σ8 r7 hkr15) (kw_no hts ⟨Nat.le_of_ble_eq_true rfl, Nat.le_of_ble_eq_true rfl⟩) rfl rfl (lv_room (Nat.le_of_ble_eq_true rfl)) dX8_floor_46 (Nat.le_refl _) (Nat.le_refl _) (fun H locs hB => ?_)
        obtain ⟨rfl, rfl⟩ := so_e hf
        exact rm_iret hx hb hr hlocks hK hB dX8_floor_49
    · have hf := it_t hf c6
      refine lv_aload_n hx hb dX8_floor_22 rfl (lv_at hl 0 rfl) ?_
      refine lv_bipush (v := (-2)) hx hb dX8_floor_23 (by decide) ?_
      obtain ⟨r17, σ18, hkr17, hf⟩ := bd_e hf
      refine rm_calliV (av := [.int (-2)]) (rest := []) hx hb hml hown hts hl.1 hK hA hB (cm_no l D ad cy n σ5 (-2) hkr17) (kw_no hts ⟨Nat.le_of_ble_eq_true rfl, Nat.le_of_ble_eq_true rfl⟩) rfl rfl (lv_room (Nat.le_of_ble_eq_true rfl)) dX8_floor_25 (Nat.le_refl _) (Nat.le_refl _) (fun H locs hB => ?_)
      obtain ⟨rfl, rfl⟩ := so_e hf
      exact rm_iret hx hb hr hlocks hK hB dX8_floor_28
  · have hf := it_t hf c3
    refine lv_aload_n hx hb dX8_floor_7 rfl (lv_at hl 0 rfl) ?_
    refine lv_iconst (v := (-1)) hx hb dX8_floor_8 (by decide) ?_
    obtain ⟨r19, σ20, hkr19, hf⟩ := bd_e hf
    refine rm_calliV (av := [.int (-1)]) (rest := []) hx hb hml hown hts hl.1 hK hA hB (cm_no l D ad cy n σ2 (-1) hkr19) (kw_no hts ⟨Nat.le_of_ble_eq_true rfl, Nat.le_of_ble_eq_true rfl⟩) rfl rfl (lv_room (Nat.le_of_ble_eq_true rfl)) dX8_floor_9 (Nat.le_refl _) (Nat.le_refl _) (fun H locs hB => ?_)
    obtain ⟨rfl, rfl⟩ := so_e hf
    exact rm_iret hx hb hr hlocks hK hB dX8_floor_12
theorem cm_floor (l : Launch) (D : va_G) (ad : Nat → Nat) (cy : ClassId) (n : Nat) (σ : MS) (x1 : Int32) (x2 : Int32) (x3 : Int32) {r0 : Int32} {σ0 : MS} (hf : fm_floor n σ x1 x2 x3 = some (r0, σ0)) : mMi l yX8_floor wn_floor rm_floor D ad cy [.ref (ad 0), .int x1, .int x2, .int x3] σ r0 σ0 :=
  rm_meti (ret := (some .int)) (by decide) rfl (Nat.le_of_ble_eq_true rfl) (fun p e s m below meth c A ls hc hK hA hB hl => tbm_floor_0 hc hK hA n σ x1 x2 x3 hB hl hf)
/-! air -/
abbrev rm_air : Room := { frames := 0, cells := 0, slots := 0, locals := 0 }
abbrev wn_air : List Cond := .code yX8_air cX8_air 2 (some .int) :: wsM
def bm_air_13 (n : Nat) (σ : MS) (x1 : Int32) (t0 : Int32) : Option (Int32 × MS) := if (t0 = x1) then (some (0, σ)) else (if (x1 = 0) then (sq (mp σ 0 12 0) (fun σ3 => some (1, σ3))) else (sq (mp σ 0 12 1) (fun σ4 => some (1, σ4))))
set_option maxRecDepth 100000 in
set_option maxHeartbeats 4000000 in
theorem tbm_air_13 {p : Program} {l : Launch} {e : Env} {s : State} {m : MethodId} {args : Array Value} {below : List Frame} {meth : Method} {c : Code} {D : va_G} {A : Nat → Prop} {ad : Nat → Nat} {cy : ClassId} {r0 : Int32} {σ0 : MS} (hc : cxB RX8 wsM cX8_air 2 (some .int) p s m args meth c) (hK : va_K D vwCl [(cy, .int)] s) (hA : ∀ q, s.heap.size ≤ q → A q) (n : Nat) (σ : MS) (x1 : Int32) (t0 : Int32) {H : Heap} {locs : List Loc} {ls : Array Slot} (hB : mB D ad cy A s.heap σ H locs) (hl : lv_has ls 2 [(0, .ref (ad 0)), (1, .int x1)]) (hf : bm_air_13 n σ x1 t0 = some (r0, σ0)) : W p l e rm_air s m args below meth c H locs 0 0 (MQ below (mQi D ad cy A r0 σ0) args s 0 0 A) (F0 m 13 ls [.int t0]) := by
  obtain ⟨hx, hb, hml, hown, hts, hr, hlocks⟩ := id hc
  unfold bm_air_13 at hf
  refine lv_iload_n hx hb dX8_air_13 rfl (lv_at hl 1 rfl) ?_
  refine lv_icmp_ne (tgt := 19) hx hb dX8_air_14 (by decide) (fun c1 => ?_) (fun c1 => ?_)
  · have hf := it_f hf c1
    refine lv_aload_n hx hb dX8_air_19 rfl (lv_at hl 0 rfl) ?_
    refine lv_iload_n hx hb dX8_air_20 rfl (lv_at hl 1 rfl) ?_
    refine lv_if_eq (tgt := 28) hx hb dX8_air_21 (by decide) (fun c2 => ?_) (fun c2 => ?_)
    · have hf := it_t hf c2
      refine lv_iconst (v := 0) hx hb dX8_air_28 (by decide) ?_
      refine rm_puti hx hb hts inM hown hK hB 12 (Nat.le_of_ble_eq_true rfl) qf_37 (ms_12 _ _ _) rfl pd_12 rfl rfl dX8_air_29 (fun σ3 eσ3 H locs hB => ?_)
      have hf := sq_e hf σ3 eσ3
      refine lv_iconst (v := 1) hx hb dX8_air_32 (by decide) ?_
      obtain ⟨rfl, rfl⟩ := so_e hf
      exact rm_iret hx hb hr hlocks hK hB dX8_air_33
    · have hf := it_f hf c2
      refine lv_iconst (v := 1) hx hb dX8_air_24 (by decide) ?_
      refine lv_goto (tgt := 29) hx hb dX8_air_25 (by decide) ?_
      refine rm_puti hx hb hts inM hown hK hB 12 (Nat.le_of_ble_eq_true rfl) qf_37 (ms_12 _ _ _) rfl pd_12 rfl rfl dX8_air_29 (fun σ4 eσ4 H locs hB => ?_)
      have hf := sq_e hf σ4 eσ4
      refine lv_iconst (v := 1) hx hb dX8_air_32 (by decide) ?_
      obtain ⟨rfl, rfl⟩ := so_e hf
      exact rm_iret hx hb hr hlocks hK hB dX8_air_33
  · have hf := it_t hf c1
    refine lv_iconst (v := 0) hx hb dX8_air_17 (by decide) ?_
    obtain ⟨rfl, rfl⟩ := so_e hf
    exact rm_iret hx hb hr hlocks hK hB dX8_air_18
def fm_air (n : Nat) (σ : MS) (x1 : Int32) : Option (Int32 × MS) := if ((σ.1 0 12) = 1) then (bm_air_13 n σ x1 1) else (bm_air_13 n σ x1 0)
set_option maxRecDepth 100000 in
set_option maxHeartbeats 4000000 in
theorem tbm_air_0 {p : Program} {l : Launch} {e : Env} {s : State} {m : MethodId} {args : Array Value} {below : List Frame} {meth : Method} {c : Code} {D : va_G} {A : Nat → Prop} {ad : Nat → Nat} {cy : ClassId} {r0 : Int32} {σ0 : MS} (hc : cxB RX8 wsM cX8_air 2 (some .int) p s m args meth c) (hK : va_K D vwCl [(cy, .int)] s) (hA : ∀ q, s.heap.size ≤ q → A q) (n : Nat) (σ : MS) (x1 : Int32) {H : Heap} {locs : List Loc} {ls : Array Slot} (hB : mB D ad cy A s.heap σ H locs) (hl : lv_has ls 2 [(0, .ref (ad 0)), (1, .int x1)]) (hf : fm_air n σ x1 = some (r0, σ0)) : W p l e rm_air s m args below meth c H locs 0 0 (MQ below (mQi D ad cy A r0 σ0) args s 0 0 A) (F0 m 0 ls []) := by
  obtain ⟨hx, hb, hml, hown, hts, hr, hlocks⟩ := id hc
  unfold fm_air at hf
  refine lv_aload_n hx hb dX8_air_0 rfl (lv_at hl 0 rfl) ?_
  refine rm_get hx hb hts inM hown hK hB 12 (Nat.le_of_ble_eq_true rfl) qf_37 rfl dX8_air_1 ?_
  refine lv_iconst (v := 1) hx hb dX8_air_4 (by decide) ?_
  refine lv_icmp_ne (tgt := 12) hx hb dX8_air_5 (by decide) (fun c1 => ?_) (fun c1 => ?_)
  · have hf := it_f hf c1
    refine lv_iconst (v := 0) hx hb dX8_air_12 (by decide) ?_
    exact tbm_air_13 hc hK hA n σ x1 0 hB (lv_sub hl [0, 1] rfl) hf
  · have hf := it_t hf c1
    refine lv_iconst (v := 1) hx hb dX8_air_8 (by decide) ?_
    refine lv_goto (tgt := 13) hx hb dX8_air_9 (by decide) ?_
    exact tbm_air_13 hc hK hA n σ x1 1 hB (lv_sub hl [0, 1] rfl) hf
theorem cm_air (l : Launch) (D : va_G) (ad : Nat → Nat) (cy : ClassId) (n : Nat) (σ : MS) (x1 : Int32) {r0 : Int32} {σ0 : MS} (hf : fm_air n σ x1 = some (r0, σ0)) : mMi l yX8_air wn_air rm_air D ad cy [.ref (ad 0), .int x1] σ r0 σ0 :=
  rm_meti (ret := (some .int)) (by decide) rfl (Nat.le_of_ble_eq_true rfl) (fun p e s m below meth c A ls hc hK hA hB hl => tbm_air_0 hc hK hA n σ x1 hB hl hf)
/-! toneOf -/
abbrev rm_toneOf : Room := { frames := 0, cells := 0, slots := 0, locals := 0 }
abbrev wn_toneOf : List Cond := .code yX8_toneOf cX8_toneOf 3 (some .int) :: wsM
def fm_toneOf (n : Nat) (σ : MS) (x1 : Int32) (x2 : Int32) : Option (Int32 × MS) := ck (decide (¬ ((x2 + 10) = 0))) (ck (ib x1 7) (sq ((σ.1 7 (Int32.toNatClampNeg x1)) : Int32) (fun y3 => ck (ib x1 7) (sq ((σ.1 4 (Int32.toNatClampNeg x1)) : Int32) (fun y5 => ck (decide (¬ ((10 + (y5 / 10)) = 0))) (sq ((((9000 / (x2 + 10)) * (100 + y3)) / (10 + (y5 / 10))) : Int32) (fun y7 => some (y7, σ))))))))
set_option maxRecDepth 100000 in
set_option maxHeartbeats 4000000 in
theorem tbm_toneOf_0 {p : Program} {l : Launch} {e : Env} {s : State} {m : MethodId} {args : Array Value} {below : List Frame} {meth : Method} {c : Code} {D : va_G} {A : Nat → Prop} {ad : Nat → Nat} {cy : ClassId} {r0 : Int32} {σ0 : MS} (hc : cxB RX8 wsM cX8_toneOf 3 (some .int) p s m args meth c) (hK : va_K D vwCl [(cy, .int)] s) (hA : ∀ q, s.heap.size ≤ q → A q) (n : Nat) (σ : MS) (x1 : Int32) (x2 : Int32) {H : Heap} {locs : List Loc} {ls : Array Slot} (hB : mB D ad cy A s.heap σ H locs) (hl : lv_has ls 3 [(0, .ref (ad 0)), (1, .int x1), (2, .int x2)]) (hf : fm_toneOf n σ x1 x2 = some (r0, σ0)) : W p l e rm_toneOf s m args below meth c H locs 0 0 (MQ below (mQi D ad cy A r0 σ0) args s 0 0 A) (F0 m 0 ls []) := by
  obtain ⟨hx, hb, hml, hown, hts, hr, hlocks⟩ := id hc
  unfold fm_toneOf at hf
  refine lv_sipush (v := 9000) hx hb dX8_toneOf_0 (by decide) ?_
  refine lv_iload_n hx hb dX8_toneOf_3 rfl (lv_at hl 2 rfl) ?_
  refine lv_bipush (v := 10) hx hb dX8_toneOf_4 (by decide) ?_
  refine lv_iadd hx hb dX8_toneOf_6 ?_
  obtain ⟨k1, hf⟩ := ck_e hf
  refine lv_idiv hx hb dX8_toneOf_7 (of_decide_eq_true k1) ?_
  refine lv_bipush (v := 100) hx hb dX8_toneOf_8 (by decide) ?_
  refine lv_aload_n hx hb dX8_toneOf_10 rfl (lv_at hl 0 rfl) ?_
  refine rm_get hx hb hts inM hown hK hB 6 (Nat.le_of_ble_eq_true rfl) qf_28 rfl dX8_toneOf_11 ?_
  refine lv_iload_n hx hb dX8_toneOf_14 rfl (lv_at hl 1 rfl) ?_
  obtain ⟨k2, hf⟩ := ck_e hf
  refine rm_ald hx hb hK hB 7 rfl k2 dX8_toneOf_15 ?_
  refine lv_topi (fun y3 ey3 => ?_)
  have hf := sq_e hf y3 ey3
  refine lv_iadd hx hb dX8_toneOf_16 ?_
  refine lv_imul hx hb dX8_toneOf_17 ?_
  refine lv_bipush (v := 10) hx hb dX8_toneOf_18 (by decide) ?_
  refine lv_aload_n hx hb dX8_toneOf_20 rfl (lv_at hl 0 rfl) ?_
  refine rm_get hx hb hts inM hown hK hB 3 (Nat.le_of_ble_eq_true rfl) qf_19 rfl dX8_toneOf_21 ?_
  refine lv_iload_n hx hb dX8_toneOf_24 rfl (lv_at hl 1 rfl) ?_
  obtain ⟨k4, hf⟩ := ck_e hf
  refine rm_ald hx hb hK hB 4 rfl k4 dX8_toneOf_25 ?_
  refine lv_topi (fun y5 ey5 => ?_)
  have hf := sq_e hf y5 ey5
  refine lv_bipush (v := 10) hx hb dX8_toneOf_26 (by decide) ?_
  refine lv_idiv hx hb dX8_toneOf_28 (by decide) ?_
  refine lv_iadd hx hb dX8_toneOf_29 ?_
  obtain ⟨k6, hf⟩ := ck_e hf
  refine lv_idiv hx hb dX8_toneOf_30 (of_decide_eq_true k6) ?_
  refine lv_topi (fun y7 ey7 => ?_)
  have hf := sq_e hf y7 ey7
  obtain ⟨rfl, rfl⟩ := so_e hf
  exact rm_iret hx hb hr hlocks hK hB dX8_toneOf_31
theorem cm_toneOf (l : Launch) (D : va_G) (ad : Nat → Nat) (cy : ClassId) (n : Nat) (σ : MS) (x1 : Int32) (x2 : Int32) {r0 : Int32} {σ0 : MS} (hf : fm_toneOf n σ x1 x2 = some (r0, σ0)) : mMi l yX8_toneOf wn_toneOf rm_toneOf D ad cy [.ref (ad 0), .int x1, .int x2] σ r0 σ0 :=
  rm_meti (ret := (some .int)) (by decide) rfl (Nat.le_of_ble_eq_true rfl) (fun p e s m below meth c A ls hc hK hA hB hl => tbm_toneOf_0 hc hK hA n σ x1 x2 hB hl hf)
theorem kw_toneOf {R : Room} {s : State} {args : Array Value} (hts : ∀ w ∈ wsM, w.before args s = true) (hR : rm_toneOf.frames + 1 ≤ R.frames ∧ 8 + (3 + 11) + rm_toneOf.locals ≤ R.locals) : CallW R s args RX8 RX8 190 yX8_toneOf cX8_toneOf 3 (some .int) wn_toneOf rm_toneOf 0 0 2 := cwV 2 hts (gM_v qw_126 qw_127 qw_128 qw_37 qw_112) rfl rfl rfl (by decide +kernel) hR
