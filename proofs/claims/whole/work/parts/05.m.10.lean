/-! passOne -/
abbrev rm_passOne : Room := { frames := 0, cells := 0, slots := 0, locals := 0 }
abbrev wn_passOne : List Cond := .code yX8_passOne cX8_passOne 3 (some .int) :: wsM
def bm_passOne_38 (n : Nat) (σ : MS) (x2 : Int32) : Option (Int32 × MS) := sq (mp σ 0 56 ((σ.1 0 56) + 1)) (fun σ1 => some (x2, σ1))
set_option maxRecDepth 100000 in
set_option maxHeartbeats 4000000 in
theorem tbm_passOne_38 {p : Program} {l : Launch} {e : Env} {s : State} {m : MethodId} {args : Array Value} {below : List Frame} {meth : Method} {c : Code} {D : va_G} {A : Nat → Prop} {ad : Nat → Nat} {cy : ClassId} {r0 : Int32} {σ0 : MS} (hc : cxB RX8 wsM cX8_passOne 3 (some .int) p s m args meth c) (hK : va_K D vwCl [(cy, .int)] s) (hA : ∀ q, s.heap.size ≤ q → A q) (n : Nat) (σ : MS) (x2 : Int32) {H : Heap} {locs : List Loc} {ls : Array Slot} (hB : mB D ad cy A s.heap σ H locs) (hl : lv_has ls 3 [(0, .ref (ad 0)), (2, .int x2)]) (hf : bm_passOne_38 n σ x2 = some (r0, σ0)) : W p l e rm_passOne s m args below meth c H locs 0 0 (MQ below (mQi D ad cy A r0 σ0) args s 0 0 A) (F0 m 38 ls []) := by
  obtain ⟨hx, hb, hml, hown, hts, hr, hlocks⟩ := id hc
  unfold bm_passOne_38 at hf
  refine lv_aload_n hx hb dX8_passOne_38 rfl (lv_at hl 0 rfl) ?_
  refine lv_dup hx hb dX8_passOne_39 rfl ?_
  refine rm_get hx hb hts inM hown hK hB 56 (Nat.le_of_ble_eq_true rfl) qf_316 rfl dX8_passOne_40 ?_
  refine lv_iconst (v := 1) hx hb dX8_passOne_43 (by decide) ?_
  refine lv_iadd hx hb dX8_passOne_44 ?_
  refine rm_puti hx hb hts inM hown hK hB 56 (Nat.le_of_ble_eq_true rfl) qf_316 (ms_56 _ _ _) rfl pd_56 rfl rfl dX8_passOne_45 (fun σ1 eσ1 H locs hB => ?_)
  have hf := sq_e hf σ1 eσ1
  refine lv_iload_n hx hb dX8_passOne_48 rfl (lv_at hl 1 rfl) ?_
  obtain ⟨rfl, rfl⟩ := so_e hf
  exact rm_iret hx hb hr hlocks hK hB dX8_passOne_49
def bm_passOne_20 (n : Nat) (σ : MS) (x1 : Int32) (t0 : Int32) : Option (Int32 × MS) := if ((σ.1 0 55) = 0) then (bm_passOne_38 n σ t0) else (ck (ib (σ.1 0 56) 800) (sq (mp σ 24 (Int32.toNatClampNeg (σ.1 0 56)) x1) (fun σ3 => bm_passOne_38 n σ3 t0)))
set_option maxRecDepth 100000 in
set_option maxHeartbeats 4000000 in
theorem tbm_passOne_20 {p : Program} {l : Launch} {e : Env} {s : State} {m : MethodId} {args : Array Value} {below : List Frame} {meth : Method} {c : Code} {D : va_G} {A : Nat → Prop} {ad : Nat → Nat} {cy : ClassId} {r0 : Int32} {σ0 : MS} (hc : cxB RX8 wsM cX8_passOne 3 (some .int) p s m args meth c) (hK : va_K D vwCl [(cy, .int)] s) (hA : ∀ q, s.heap.size ≤ q → A q) (n : Nat) (σ : MS) (x1 : Int32) (t0 : Int32) {H : Heap} {locs : List Loc} {ls : Array Slot} (hB : mB D ad cy A s.heap σ H locs) (hl : lv_has ls 3 [(0, .ref (ad 0)), (1, .int x1)]) (hf : bm_passOne_20 n σ x1 t0 = some (r0, σ0)) : W p l e rm_passOne s m args below meth c H locs 0 0 (MQ below (mQi D ad cy A r0 σ0) args s 0 0 A) (F0 m 20 ls [.int t0]) := by
  obtain ⟨hx, hb, hml, hown, hts, hr, hlocks⟩ := id hc
  unfold bm_passOne_20 at hf
  refine lv_istore_n (lv' := [(2, .int t0), (0, .ref (ad 0)), (1, .int x1)]) hx hb dX8_passOne_20 rfl hl (by decide) rfl (fun ls hl => ?_)
  refine lv_aload_n hx hb dX8_passOne_21 rfl (lv_at hl 1 rfl) ?_
  refine rm_get hx hb hts inM hown hK hB 55 (Nat.le_of_ble_eq_true rfl) qf_313 rfl dX8_passOne_22 ?_
  refine lv_if_eq (tgt := 38) hx hb dX8_passOne_25 (by decide) (fun c1 => ?_) (fun c1 => ?_)
  · have hf := it_t hf c1
    exact tbm_passOne_38 hc hK hA n σ t0 hB (lv_sub hl [1, 0] rfl) hf
  · have hf := it_f hf c1
    refine lv_aload_n hx hb dX8_passOne_28 rfl (lv_at hl 1 rfl) ?_
    refine rm_get hx hb hts inM hown hK hB 53 (Nat.le_of_ble_eq_true rfl) qf_83 rfl dX8_passOne_29 ?_
    refine lv_aload_n hx hb dX8_passOne_32 rfl (lv_at hl 1 rfl) ?_
    refine rm_get hx hb hts inM hown hK hB 56 (Nat.le_of_ble_eq_true rfl) qf_316 rfl dX8_passOne_33 ?_
    refine lv_iload_n hx hb dX8_passOne_36 rfl (lv_at hl 2 rfl) ?_
    obtain ⟨k2, hf⟩ := ck_e hf
    refine rm_ast hx hb hK hB 24 rfl (msa_24 _ _ _) k2 dX8_passOne_37 (fun σ3 eσ3 H locs hB => ?_)
    have hf := sq_e hf σ3 eσ3
    exact tbm_passOne_38 hc hK hA n σ3 t0 hB (lv_sub hl [1, 0] rfl) hf
def fm_passOne (n : Nat) (σ : MS) (x1 : Int32) : Option (Int32 × MS) := if ((σ.1 0 55) = 0) then (ck (ib (σ.1 0 56) 800) (sq ((σ.1 24 (Int32.toNatClampNeg (σ.1 0 56))) : Int32) (fun y3 => bm_passOne_20 n σ x1 y3))) else (bm_passOne_20 n σ x1 x1)
set_option maxRecDepth 100000 in
set_option maxHeartbeats 4000000 in
theorem tbm_passOne_0 {p : Program} {l : Launch} {e : Env} {s : State} {m : MethodId} {args : Array Value} {below : List Frame} {meth : Method} {c : Code} {D : va_G} {A : Nat → Prop} {ad : Nat → Nat} {cy : ClassId} {r0 : Int32} {σ0 : MS} (hc : cxB RX8 wsM cX8_passOne 3 (some .int) p s m args meth c) (hK : va_K D vwCl [(cy, .int)] s) (hA : ∀ q, s.heap.size ≤ q → A q) (n : Nat) (σ : MS) (x1 : Int32) {H : Heap} {locs : List Loc} {ls : Array Slot} (hB : mB D ad cy A s.heap σ H locs) (hl : lv_has ls 3 [(0, .ref (ad 0)), (1, .int x1)]) (hf : fm_passOne n σ x1 = some (r0, σ0)) : W p l e rm_passOne s m args below meth c H locs 0 0 (MQ below (mQi D ad cy A r0 σ0) args s 0 0 A) (F0 m 0 ls []) := by
  obtain ⟨hx, hb, hml, hown, hts, hr, hlocks⟩ := id hc
  unfold fm_passOne at hf
  refine lv_aload_n hx hb dX8_passOne_0 rfl (lv_at hl 0 rfl) ?_
  refine rm_get hx hb hts inM hown hK hB 55 (Nat.le_of_ble_eq_true rfl) qf_313 rfl dX8_passOne_1 ?_
  refine lv_if_eq (tgt := 11) hx hb dX8_passOne_4 (by decide) (fun c1 => ?_) (fun c1 => ?_)
  · have hf := it_t hf c1
    refine lv_aload_n hx hb dX8_passOne_11 rfl (lv_at hl 0 rfl) ?_
    refine rm_get hx hb hts inM hown hK hB 53 (Nat.le_of_ble_eq_true rfl) qf_83 rfl dX8_passOne_12 ?_
    refine lv_aload_n hx hb dX8_passOne_15 rfl (lv_at hl 0 rfl) ?_
    refine rm_get hx hb hts inM hown hK hB 56 (Nat.le_of_ble_eq_true rfl) qf_316 rfl dX8_passOne_16 ?_
    obtain ⟨k2, hf⟩ := ck_e hf
    refine rm_ald hx hb hK hB 24 rfl k2 dX8_passOne_19 ?_
    refine lv_topi (fun y3 ey3 => ?_)
    have hf := sq_e hf y3 ey3
    exact tbm_passOne_20 hc hK hA n σ x1 y3 hB (lv_sub hl [0, 1] rfl) hf
  · have hf := it_f hf c1
    refine lv_iload_n hx hb dX8_passOne_7 rfl (lv_at hl 1 rfl) ?_
    refine lv_goto (tgt := 20) hx hb dX8_passOne_8 (by decide) ?_
    exact tbm_passOne_20 hc hK hA n σ x1 x1 hB (lv_sub hl [0, 1] rfl) hf
theorem cm_passOne (l : Launch) (D : va_G) (ad : Nat → Nat) (cy : ClassId) (n : Nat) (σ : MS) (x1 : Int32) {r0 : Int32} {σ0 : MS} (hf : fm_passOne n σ x1 = some (r0, σ0)) : mMi l yX8_passOne wn_passOne rm_passOne D ad cy [.ref (ad 0), .int x1] σ r0 σ0 :=
  rm_meti (ret := (some .int)) (by decide) rfl (Nat.le_of_ble_eq_true rfl) (fun p e s m below meth c A ls hc hK hA hB hl => tbm_passOne_0 hc hK hA n σ x1 hB hl hf)
theorem kw_passOne {R : Room} {s : State} {args : Array Value} (hts : ∀ w ∈ wsM, w.before args s = true) (hR : rm_passOne.frames + 1 ≤ R.frames ∧ 8 + (3 + 11) + rm_passOne.locals ≤ R.locals) : CallW R s args RX8 RX8 323 yX8_passOne cX8_passOne 3 (some .int) wn_passOne rm_passOne 0 0 1 := cwV 1 hts (gM_v qw_223 qw_224 qw_225 qw_37 qw_219) rfl rfl rfl (by decide +kernel) hR
/-! passesAll -/
abbrev rm_passesAll : Room := { frames := 1, cells := 0, slots := 0, locals := 22 }
abbrev wn_passesAll : List Cond := .code yX8_passesAll cX8_passesAll 1 none :: wsM
def fm_passesAll (n : Nat) (σ : MS) : Option (Int32 × MS) := sq (mp σ 0 56 0) (fun σ1 => bd (fm_turns n σ1 3) (fun _ σ3 => bd (fm_turns n σ3 4) (fun _ σ5 => bd (fm_turns n σ5 5) (fun _ σ7 => bd (fm_turns n σ7 6) (fun _ σ9 => bd (fm_turns n σ9 7) (fun _ σ11 => bd (fm_turns n σ11 8) (fun _ σ13 => bd (fm_turns n σ13 9) (fun _ σ15 => bd (fm_turns n σ15 10) (fun _ σ17 => bd (fm_turns n σ17 11) (fun _ σ19 => bd (fm_turns n σ19 12) (fun _ σ21 => bd (fm_turns n σ21 13) (fun _ σ23 => bd (fm_turns n σ23 14) (fun _ σ25 => bd (fm_turns n σ25 15) (fun _ σ27 => bd (fm_turns n σ27 19) (fun _ σ29 => bd (fm_turns n σ29 20) (fun _ σ31 => bd (fm_turns n σ31 21) (fun _ σ33 => bd (fm_turns n σ33 22) (fun _ σ35 => bd (fm_turns n σ35 23) (fun _ σ37 => bd (fm_passOne n σ37 (σ37.1 0 11)) (fun r38 σ39 => sq (mp σ39 0 11 r38) (fun σ40 => bd (fm_passOne n σ40 (σ40.1 0 12)) (fun r41 σ42 => sq (mp σ42 0 12 r41) (fun σ43 => bd (fm_passOne n σ43 (σ43.1 0 21)) (fun r44 σ45 => sq (mp σ45 0 21 r44) (fun σ46 => bd (fm_passOne n σ46 (σ46.1 0 38)) (fun r47 σ48 => sq (mp σ48 0 38 r47) (fun σ49 => bd (fm_passOne n σ49 (σ49.1 0 39)) (fun r50 σ51 => sq (mp σ51 0 39 r50) (fun σ52 => bd (fm_passOne n σ52 (σ52.1 0 40)) (fun r53 σ54 => sq (mp σ54 0 40 r53) (fun σ55 => bd (fm_passOne n σ55 (σ55.1 0 41)) (fun r56 σ57 => sq (mp σ57 0 41 r56) (fun σ58 => bd (fm_passOne n σ58 (σ58.1 0 42)) (fun r59 σ60 => sq (mp σ60 0 42 r59) (fun σ61 => bd (fm_passOne n σ61 (σ61.1 0 43)) (fun r62 σ63 => sq (mp σ63 0 43 r62) (fun σ64 => bd (fm_passOne n σ64 (σ64.1 0 44)) (fun r65 σ66 => sq (mp σ66 0 44 r65) (fun σ67 => bd (fm_passOne n σ67 (σ67.1 0 45)) (fun r68 σ69 => sq (mp σ69 0 45 r68) (fun σ70 => bd (fm_passOne n σ70 (σ70.1 0 48)) (fun r71 σ72 => sq (mp σ72 0 48 r71) (fun σ73 => bd (fm_passOne n σ73 (σ73.1 0 49)) (fun r74 σ75 => sq (mp σ75 0 49 r74) (fun σ76 => bd (fm_passOne n σ76 (σ76.1 0 52)) (fun r77 σ78 => sq (mp σ78 0 52 r77) (fun σ79 => some (0, σ79))))))))))))))))))))))))))))))))))))))))))))))))
set_option maxRecDepth 100000 in
set_option maxHeartbeats 4000000 in
theorem tbm_passesAll_0 {p : Program} {l : Launch} {e : Env} {s : State} {m : MethodId} {args : Array Value} {below : List Frame} {meth : Method} {c : Code} {D : va_G} {A : Nat → Prop} {ad : Nat → Nat} {cy : ClassId} {r0 : Int32} {σ0 : MS} (hc : cxB RX8 wsM cX8_passesAll 1 none p s m args meth c) (hK : va_K D vwCl [(cy, .int)] s) (hA : ∀ q, s.heap.size ≤ q → A q) (n : Nat) (σ : MS) {H : Heap} {locs : List Loc} {ls : Array Slot} (hB : mB D ad cy A s.heap σ H locs) (hl : lv_has ls 1 [(0, .ref (ad 0))]) (hf : fm_passesAll n σ = some (r0, σ0)) : W p l e rm_passesAll s m args below meth c H locs 0 0 (MQ below (mQv D ad cy A σ0) args s 0 0 A) (F0 m 0 ls []) := by
  obtain ⟨hx, hb, hml, hown, hts, hr, hlocks⟩ := id hc
  unfold fm_passesAll at hf
  refine lv_aload_n hx hb dX8_passesAll_0 rfl (lv_at hl 0 rfl) ?_
  refine lv_iconst (v := 0) hx hb dX8_passesAll_1 (by decide) ?_
  refine rm_puti hx hb hts inM hown hK hB 56 (Nat.le_of_ble_eq_true rfl) qf_316 (ms_56 _ _ _) rfl pd_56 rfl rfl dX8_passesAll_2 (fun σ1 eσ1 H locs hB => ?_)
  have hf := sq_e hf σ1 eσ1
  refine lv_aload_n hx hb dX8_passesAll_5 rfl (lv_at hl 0 rfl) ?_
  refine lv_aload_n hx hb dX8_passesAll_6 rfl (lv_at hl 0 rfl) ?_
  refine rm_get hx hb hts inM hown hK hB 2 (Nat.le_of_ble_eq_true rfl) qf_16 rfl dX8_passesAll_7 ?_
  obtain ⟨r2, σ3, hkr2, hf⟩ := bd_e hf
  refine rm_callvV (av := [.ref (ad 3)]) (rest := []) hx hb hml hown hts hl.1 hK hA hB (cm_turns l D ad cy n σ1 3 hkr2) (kw_turns hts ⟨Nat.le_of_ble_eq_true rfl, Nat.le_of_ble_eq_true rfl⟩) rfl rfl (lv_room (Nat.le_of_ble_eq_true rfl)) dX8_passesAll_10 (Nat.le_refl _) (Nat.le_refl _) (fun H locs hB => ?_)
  refine lv_aload_n hx hb dX8_passesAll_13 rfl (lv_at hl 0 rfl) ?_
  refine lv_aload_n hx hb dX8_passesAll_14 rfl (lv_at hl 0 rfl) ?_
  refine rm_get hx hb hts inM hown hK hB 3 (Nat.le_of_ble_eq_true rfl) qf_19 rfl dX8_passesAll_15 ?_
  obtain ⟨r4, σ5, hkr4, hf⟩ := bd_e hf
  refine rm_callvV (av := [.ref (ad 4)]) (rest := []) hx hb hml hown hts hl.1 hK hA hB (cm_turns l D ad cy n σ3 4 hkr4) (kw_turns hts ⟨Nat.le_of_ble_eq_true rfl, Nat.le_of_ble_eq_true rfl⟩) rfl rfl (lv_room (Nat.le_of_ble_eq_true rfl)) dX8_passesAll_18 (Nat.le_refl _) (Nat.le_refl _) (fun H locs hB => ?_)
  refine lv_aload_n hx hb dX8_passesAll_21 rfl (lv_at hl 0 rfl) ?_
  refine lv_aload_n hx hb dX8_passesAll_22 rfl (lv_at hl 0 rfl) ?_
  refine rm_get hx hb hts inM hown hK hB 4 (Nat.le_of_ble_eq_true rfl) qf_22 rfl dX8_passesAll_23 ?_
  obtain ⟨r6, σ7, hkr6, hf⟩ := bd_e hf
  refine rm_callvV (av := [.ref (ad 5)]) (rest := []) hx hb hml hown hts hl.1 hK hA hB (cm_turns l D ad cy n σ5 5 hkr6) (kw_turns hts ⟨Nat.le_of_ble_eq_true rfl, Nat.le_of_ble_eq_true rfl⟩) rfl rfl (lv_room (Nat.le_of_ble_eq_true rfl)) dX8_passesAll_26 (Nat.le_refl _) (Nat.le_refl _) (fun H locs hB => ?_)
  refine lv_aload_n hx hb dX8_passesAll_29 rfl (lv_at hl 0 rfl) ?_
  refine lv_aload_n hx hb dX8_passesAll_30 rfl (lv_at hl 0 rfl) ?_
  refine rm_get hx hb hts inM hown hK hB 5 (Nat.le_of_ble_eq_true rfl) qf_25 rfl dX8_passesAll_31 ?_
  obtain ⟨r8, σ9, hkr8, hf⟩ := bd_e hf
  refine rm_callvV (av := [.ref (ad 6)]) (rest := []) hx hb hml hown hts hl.1 hK hA hB (cm_turns l D ad cy n σ7 6 hkr8) (kw_turns hts ⟨Nat.le_of_ble_eq_true rfl, Nat.le_of_ble_eq_true rfl⟩) rfl rfl (lv_room (Nat.le_of_ble_eq_true rfl)) dX8_passesAll_34 (Nat.le_refl _) (Nat.le_refl _) (fun H locs hB => ?_)
  refine lv_aload_n hx hb dX8_passesAll_37 rfl (lv_at hl 0 rfl) ?_
  refine lv_aload_n hx hb dX8_passesAll_38 rfl (lv_at hl 0 rfl) ?_
  refine rm_get hx hb hts inM hown hK hB 6 (Nat.le_of_ble_eq_true rfl) qf_28 rfl dX8_passesAll_39 ?_
  obtain ⟨r10, σ11, hkr10, hf⟩ := bd_e hf
  refine rm_callvV (av := [.ref (ad 7)]) (rest := []) hx hb hml hown hts hl.1 hK hA hB (cm_turns l D ad cy n σ9 7 hkr10) (kw_turns hts ⟨Nat.le_of_ble_eq_true rfl, Nat.le_of_ble_eq_true rfl⟩) rfl rfl (lv_room (Nat.le_of_ble_eq_true rfl)) dX8_passesAll_42 (Nat.le_refl _) (Nat.le_refl _) (fun H locs hB => ?_)
  refine lv_aload_n hx hb dX8_passesAll_45 rfl (lv_at hl 0 rfl) ?_
  refine lv_aload_n hx hb dX8_passesAll_46 rfl (lv_at hl 0 rfl) ?_
  refine rm_get hx hb hts inM hown hK hB 7 (Nat.le_of_ble_eq_true rfl) qf_31 rfl dX8_passesAll_47 ?_
  obtain ⟨r12, σ13, hkr12, hf⟩ := bd_e hf
  refine rm_callvV (av := [.ref (ad 8)]) (rest := []) hx hb hml hown hts hl.1 hK hA hB (cm_turns l D ad cy n σ11 8 hkr12) (kw_turns hts ⟨Nat.le_of_ble_eq_true rfl, Nat.le_of_ble_eq_true rfl⟩) rfl rfl (lv_room (Nat.le_of_ble_eq_true rfl)) dX8_passesAll_50 (Nat.le_refl _) (Nat.le_refl _) (fun H locs hB => ?_)
  refine lv_aload_n hx hb dX8_passesAll_53 rfl (lv_at hl 0 rfl) ?_
  refine lv_aload_n hx hb dX8_passesAll_54 rfl (lv_at hl 0 rfl) ?_
  refine rm_get hx hb hts inM hown hK hB 8 (Nat.le_of_ble_eq_true rfl) qf_34 rfl dX8_passesAll_55 ?_
  obtain ⟨r14, σ15, hkr14, hf⟩ := bd_e hf
  refine rm_callvV (av := [.ref (ad 9)]) (rest := []) hx hb hml hown hts hl.1 hK hA hB (cm_turns l D ad cy n σ13 9 hkr14) (kw_turns hts ⟨Nat.le_of_ble_eq_true rfl, Nat.le_of_ble_eq_true rfl⟩) rfl rfl (lv_room (Nat.le_of_ble_eq_true rfl)) dX8_passesAll_58 (Nat.le_refl _) (Nat.le_refl _) (fun H locs hB => ?_)
  refine lv_aload_n hx hb dX8_passesAll_61 rfl (lv_at hl 0 rfl) ?_
  refine lv_aload_n hx hb dX8_passesAll_62 rfl (lv_at hl 0 rfl) ?_
  refine rm_get hx hb hts inM hown hK hB 13 (Nat.le_of_ble_eq_true rfl) qf_41 rfl dX8_passesAll_63 ?_
  obtain ⟨r16, σ17, hkr16, hf⟩ := bd_e hf
  refine rm_callvV (av := [.ref (ad 10)]) (rest := []) hx hb hml hown hts hl.1 hK hA hB (cm_turns l D ad cy n σ15 10 hkr16) (kw_turns hts ⟨Nat.le_of_ble_eq_true rfl, Nat.le_of_ble_eq_true rfl⟩) rfl rfl (lv_room (Nat.le_of_ble_eq_true rfl)) dX8_passesAll_66 (Nat.le_refl _) (Nat.le_refl _) (fun H locs hB => ?_)
  refine lv_aload_n hx hb dX8_passesAll_69 rfl (lv_at hl 0 rfl) ?_
  refine lv_aload_n hx hb dX8_passesAll_70 rfl (lv_at hl 0 rfl) ?_
  refine rm_get hx hb hts inM hown hK hB 14 (Nat.le_of_ble_eq_true rfl) qf_44 rfl dX8_passesAll_71 ?_
  obtain ⟨r18, σ19, hkr18, hf⟩ := bd_e hf
  refine rm_callvV (av := [.ref (ad 11)]) (rest := []) hx hb hml hown hts hl.1 hK hA hB (cm_turns l D ad cy n σ17 11 hkr18) (kw_turns hts ⟨Nat.le_of_ble_eq_true rfl, Nat.le_of_ble_eq_true rfl⟩) rfl rfl (lv_room (Nat.le_of_ble_eq_true rfl)) dX8_passesAll_74 (Nat.le_refl _) (Nat.le_refl _) (fun H locs hB => ?_)
  refine lv_aload_n hx hb dX8_passesAll_77 rfl (lv_at hl 0 rfl) ?_
  refine lv_aload_n hx hb dX8_passesAll_78 rfl (lv_at hl 0 rfl) ?_
  refine rm_get hx hb hts inM hown hK hB 15 (Nat.le_of_ble_eq_true rfl) qf_47 rfl dX8_passesAll_79 ?_
  obtain ⟨r20, σ21, hkr20, hf⟩ := bd_e hf
  refine rm_callvV (av := [.ref (ad 12)]) (rest := []) hx hb hml hown hts hl.1 hK hA hB (cm_turns l D ad cy n σ19 12 hkr20) (kw_turns hts ⟨Nat.le_of_ble_eq_true rfl, Nat.le_of_ble_eq_true rfl⟩) rfl rfl (lv_room (Nat.le_of_ble_eq_true rfl)) dX8_passesAll_82 (Nat.le_refl _) (Nat.le_refl _) (fun H locs hB => ?_)
  refine lv_aload_n hx hb dX8_passesAll_85 rfl (lv_at hl 0 rfl) ?_
  refine lv_aload_n hx hb dX8_passesAll_86 rfl (lv_at hl 0 rfl) ?_
  refine rm_get hx hb hts inM hown hK hB 16 (Nat.le_of_ble_eq_true rfl) qf_50 rfl dX8_passesAll_87 ?_
  obtain ⟨r22, σ23, hkr22, hf⟩ := bd_e hf
  refine rm_callvV (av := [.ref (ad 13)]) (rest := []) hx hb hml hown hts hl.1 hK hA hB (cm_turns l D ad cy n σ21 13 hkr22) (kw_turns hts ⟨Nat.le_of_ble_eq_true rfl, Nat.le_of_ble_eq_true rfl⟩) rfl rfl (lv_room (Nat.le_of_ble_eq_true rfl)) dX8_passesAll_90 (Nat.le_refl _) (Nat.le_refl _) (fun H locs hB => ?_)
  refine lv_aload_n hx hb dX8_passesAll_93 rfl (lv_at hl 0 rfl) ?_
  refine lv_aload_n hx hb dX8_passesAll_94 rfl (lv_at hl 0 rfl) ?_
  refine rm_get hx hb hts inM hown hK hB 17 (Nat.le_of_ble_eq_true rfl) qf_53 rfl dX8_passesAll_95 ?_
  obtain ⟨r24, σ25, hkr24, hf⟩ := bd_e hf
  refine rm_callvV (av := [.ref (ad 14)]) (rest := []) hx hb hml hown hts hl.1 hK hA hB (cm_turns l D ad cy n σ23 14 hkr24) (kw_turns hts ⟨Nat.le_of_ble_eq_true rfl, Nat.le_of_ble_eq_true rfl⟩) rfl rfl (lv_room (Nat.le_of_ble_eq_true rfl)) dX8_passesAll_98 (Nat.le_refl _) (Nat.le_refl _) (fun H locs hB => ?_)
  refine lv_aload_n hx hb dX8_passesAll_101 rfl (lv_at hl 0 rfl) ?_
  refine lv_aload_n hx hb dX8_passesAll_102 rfl (lv_at hl 0 rfl) ?_
  refine rm_get hx hb hts inM hown hK hB 18 (Nat.le_of_ble_eq_true rfl) qf_56 rfl dX8_passesAll_103 ?_
  obtain ⟨r26, σ27, hkr26, hf⟩ := bd_e hf
  refine rm_callvV (av := [.ref (ad 15)]) (rest := []) hx hb hml hown hts hl.1 hK hA hB (cm_turns l D ad cy n σ25 15 hkr26) (kw_turns hts ⟨Nat.le_of_ble_eq_true rfl, Nat.le_of_ble_eq_true rfl⟩) rfl rfl (lv_room (Nat.le_of_ble_eq_true rfl)) dX8_passesAll_106 (Nat.le_refl _) (Nat.le_refl _) (fun H locs hB => ?_)
  refine lv_aload_n hx hb dX8_passesAll_109 rfl (lv_at hl 0 rfl) ?_
  refine lv_aload_n hx hb dX8_passesAll_110 rfl (lv_at hl 0 rfl) ?_
  refine rm_get hx hb hts inM hown hK hB 36 (Nat.le_of_ble_eq_true rfl) qf_68 rfl dX8_passesAll_111 ?_
  obtain ⟨r28, σ29, hkr28, hf⟩ := bd_e hf
  refine rm_callvV (av := [.ref (ad 19)]) (rest := []) hx hb hml hown hts hl.1 hK hA hB (cm_turns l D ad cy n σ27 19 hkr28) (kw_turns hts ⟨Nat.le_of_ble_eq_true rfl, Nat.le_of_ble_eq_true rfl⟩) rfl rfl (lv_room (Nat.le_of_ble_eq_true rfl)) dX8_passesAll_114 (Nat.le_refl _) (Nat.le_refl _) (fun H locs hB => ?_)
  refine lv_aload_n hx hb dX8_passesAll_117 rfl (lv_at hl 0 rfl) ?_
  refine lv_aload_n hx hb dX8_passesAll_118 rfl (lv_at hl 0 rfl) ?_
  refine rm_get hx hb hts inM hown hK hB 37 (Nat.le_of_ble_eq_true rfl) qf_71 rfl dX8_passesAll_119 ?_
  obtain ⟨r30, σ31, hkr30, hf⟩ := bd_e hf
  refine rm_callvV (av := [.ref (ad 20)]) (rest := []) hx hb hml hown hts hl.1 hK hA hB (cm_turns l D ad cy n σ29 20 hkr30) (kw_turns hts ⟨Nat.le_of_ble_eq_true rfl, Nat.le_of_ble_eq_true rfl⟩) rfl rfl (lv_room (Nat.le_of_ble_eq_true rfl)) dX8_passesAll_122 (Nat.le_refl _) (Nat.le_refl _) (fun H locs hB => ?_)
  refine lv_aload_n hx hb dX8_passesAll_125 rfl (lv_at hl 0 rfl) ?_
  refine lv_aload_n hx hb dX8_passesAll_126 rfl (lv_at hl 0 rfl) ?_
  refine rm_get hx hb hts inM hown hK hB 47 (Nat.le_of_ble_eq_true rfl) qf_74 rfl dX8_passesAll_127 ?_
  obtain ⟨r32, σ33, hkr32, hf⟩ := bd_e hf
  refine rm_callvV (av := [.ref (ad 21)]) (rest := []) hx hb hml hown hts hl.1 hK hA hB (cm_turns l D ad cy n σ31 21 hkr32) (kw_turns hts ⟨Nat.le_of_ble_eq_true rfl, Nat.le_of_ble_eq_true rfl⟩) rfl rfl (lv_room (Nat.le_of_ble_eq_true rfl)) dX8_passesAll_130 (Nat.le_refl _) (Nat.le_refl _) (fun H locs hB => ?_)
  refine lv_aload_n hx hb dX8_passesAll_133 rfl (lv_at hl 0 rfl) ?_
  refine lv_aload_n hx hb dX8_passesAll_134 rfl (lv_at hl 0 rfl) ?_
  refine rm_get hx hb hts inM hown hK hB 50 (Nat.le_of_ble_eq_true rfl) qf_77 rfl dX8_passesAll_135 ?_
  obtain ⟨r34, σ35, hkr34, hf⟩ := bd_e hf
  refine rm_callvV (av := [.ref (ad 22)]) (rest := []) hx hb hml hown hts hl.1 hK hA hB (cm_turns l D ad cy n σ33 22 hkr34) (kw_turns hts ⟨Nat.le_of_ble_eq_true rfl, Nat.le_of_ble_eq_true rfl⟩) rfl rfl (lv_room (Nat.le_of_ble_eq_true rfl)) dX8_passesAll_138 (Nat.le_refl _) (Nat.le_refl _) (fun H locs hB => ?_)
  refine lv_aload_n hx hb dX8_passesAll_141 rfl (lv_at hl 0 rfl) ?_
  refine lv_aload_n hx hb dX8_passesAll_142 rfl (lv_at hl 0 rfl) ?_
  refine rm_get hx hb hts inM hown hK hB 51 (Nat.le_of_ble_eq_true rfl) qf_80 rfl dX8_passesAll_143 ?_
  obtain ⟨r36, σ37, hkr36, hf⟩ := bd_e hf
  refine rm_callvV (av := [.ref (ad 23)]) (rest := []) hx hb hml hown hts hl.1 hK hA hB (cm_turns l D ad cy n σ35 23 hkr36) (kw_turns hts ⟨Nat.le_of_ble_eq_true rfl, Nat.le_of_ble_eq_true rfl⟩) rfl rfl (lv_room (Nat.le_of_ble_eq_true rfl)) dX8_passesAll_146 (Nat.le_refl _) (Nat.le_refl _) (fun H locs hB => ?_)
  refine lv_aload_n hx hb dX8_passesAll_149 rfl (lv_at hl 0 rfl) ?_
  refine lv_aload_n hx hb dX8_passesAll_150 rfl (lv_at hl 0 rfl) ?_
  refine lv_aload_n hx hb dX8_passesAll_151 rfl (lv_at hl 0 rfl) ?_
  refine rm_get hx hb hts inM hown hK hB 11 (Nat.le_of_ble_eq_true rfl) qf_123 rfl dX8_passesAll_152 ?_
  obtain ⟨r38, σ39, hkr38, hf⟩ := bd_e hf
  refine rm_calliV (av := [.int (σ37.1 0 11)]) (rest := [.ref (ad 0)]) hx hb hml hown hts hl.1 hK hA hB (cm_passOne l D ad cy n σ37 (σ37.1 0 11) hkr38) (kw_passOne hts ⟨Nat.le_of_ble_eq_true rfl, Nat.le_of_ble_eq_true rfl⟩) rfl rfl (lv_room (Nat.le_of_ble_eq_true rfl)) dX8_passesAll_155 (Nat.le_refl _) (Nat.le_refl _) (fun H locs hB => ?_)
  refine rm_puti hx hb hts inM hown hK hB 11 (Nat.le_of_ble_eq_true rfl) qf_123 (ms_11 _ _ _) rfl pd_11 rfl rfl dX8_passesAll_158 (fun σ40 eσ40 H locs hB => ?_)
  have hf := sq_e hf σ40 eσ40
  refine lv_aload_n hx hb dX8_passesAll_161 rfl (lv_at hl 0 rfl) ?_
  refine lv_aload_n hx hb dX8_passesAll_162 rfl (lv_at hl 0 rfl) ?_
  refine lv_aload_n hx hb dX8_passesAll_163 rfl (lv_at hl 0 rfl) ?_
  refine rm_get hx hb hts inM hown hK hB 12 (Nat.le_of_ble_eq_true rfl) qf_37 rfl dX8_passesAll_164 ?_
  obtain ⟨r41, σ42, hkr41, hf⟩ := bd_e hf
  refine rm_calliV (av := [.int (σ40.1 0 12)]) (rest := [.ref (ad 0)]) hx hb hml hown hts hl.1 hK hA hB (cm_passOne l D ad cy n σ40 (σ40.1 0 12) hkr41) (kw_passOne hts ⟨Nat.le_of_ble_eq_true rfl, Nat.le_of_ble_eq_true rfl⟩) rfl rfl (lv_room (Nat.le_of_ble_eq_true rfl)) dX8_passesAll_167 (Nat.le_refl _) (Nat.le_refl _) (fun H locs hB => ?_)
  refine rm_puti hx hb hts inM hown hK hB 12 (Nat.le_of_ble_eq_true rfl) qf_37 (ms_12 _ _ _) rfl pd_12 rfl rfl dX8_passesAll_170 (fun σ43 eσ43 H locs hB => ?_)
  have hf := sq_e hf σ43 eσ43
  refine lv_aload_n hx hb dX8_passesAll_173 rfl (lv_at hl 0 rfl) ?_
  refine lv_aload_n hx hb dX8_passesAll_174 rfl (lv_at hl 0 rfl) ?_
  refine lv_aload_n hx hb dX8_passesAll_175 rfl (lv_at hl 0 rfl) ?_
  refine rm_get hx hb hts inM hown hK hB 21 (Nat.le_of_ble_eq_true rfl) qf_155 rfl dX8_passesAll_176 ?_
  obtain ⟨r44, σ45, hkr44, hf⟩ := bd_e hf
  refine rm_calliV (av := [.int (σ43.1 0 21)]) (rest := [.ref (ad 0)]) hx hb hml hown hts hl.1 hK hA hB (cm_passOne l D ad cy n σ43 (σ43.1 0 21) hkr44) (kw_passOne hts ⟨Nat.le_of_ble_eq_true rfl, Nat.le_of_ble_eq_true rfl⟩) rfl rfl (lv_room (Nat.le_of_ble_eq_true rfl)) dX8_passesAll_179 (Nat.le_refl _) (Nat.le_refl _) (fun H locs hB => ?_)
  refine rm_puti hx hb hts inM hown hK hB 21 (Nat.le_of_ble_eq_true rfl) qf_155 (ms_21 _ _ _) rfl pd_21 rfl rfl dX8_passesAll_182 (fun σ46 eσ46 H locs hB => ?_)
  have hf := sq_e hf σ46 eσ46
  refine lv_aload_n hx hb dX8_passesAll_185 rfl (lv_at hl 0 rfl) ?_
  refine lv_aload_n hx hb dX8_passesAll_186 rfl (lv_at hl 0 rfl) ?_
  refine lv_aload_n hx hb dX8_passesAll_187 rfl (lv_at hl 0 rfl) ?_
  refine rm_get hx hb hts inM hown hK hB 38 (Nat.le_of_ble_eq_true rfl) qf_253 rfl dX8_passesAll_188 ?_
  obtain ⟨r47, σ48, hkr47, hf⟩ := bd_e hf
  refine rm_calliV (av := [.int (σ46.1 0 38)]) (rest := [.ref (ad 0)]) hx hb hml hown hts hl.1 hK hA hB (cm_passOne l D ad cy n σ46 (σ46.1 0 38) hkr47) (kw_passOne hts ⟨Nat.le_of_ble_eq_true rfl, Nat.le_of_ble_eq_true rfl⟩) rfl rfl (lv_room (Nat.le_of_ble_eq_true rfl)) dX8_passesAll_191 (Nat.le_refl _) (Nat.le_refl _) (fun H locs hB => ?_)
  refine rm_puti hx hb hts inM hown hK hB 38 (Nat.le_of_ble_eq_true rfl) qf_253 (ms_38 _ _ _) rfl pd_38 rfl rfl dX8_passesAll_194 (fun σ49 eσ49 H locs hB => ?_)
  have hf := sq_e hf σ49 eσ49
  refine lv_aload_n hx hb dX8_passesAll_197 rfl (lv_at hl 0 rfl) ?_
  refine lv_aload_n hx hb dX8_passesAll_198 rfl (lv_at hl 0 rfl) ?_
  refine lv_aload_n hx hb dX8_passesAll_199 rfl (lv_at hl 0 rfl) ?_
  refine rm_get hx hb hts inM hown hK hB 39 (Nat.le_of_ble_eq_true rfl) qf_250 rfl dX8_passesAll_200 ?_
  obtain ⟨r50, σ51, hkr50, hf⟩ := bd_e hf
  refine rm_calliV (av := [.int (σ49.1 0 39)]) (rest := [.ref (ad 0)]) hx hb hml hown hts hl.1 hK hA hB (cm_passOne l D ad cy n σ49 (σ49.1 0 39) hkr50) (kw_passOne hts ⟨Nat.le_of_ble_eq_true rfl, Nat.le_of_ble_eq_true rfl⟩) rfl rfl (lv_room (Nat.le_of_ble_eq_true rfl)) dX8_passesAll_203 (Nat.le_refl _) (Nat.le_refl _) (fun H locs hB => ?_)
  refine rm_puti hx hb hts inM hown hK hB 39 (Nat.le_of_ble_eq_true rfl) qf_250 (ms_39 _ _ _) rfl pd_39 rfl rfl dX8_passesAll_206 (fun σ52 eσ52 H locs hB => ?_)
  have hf := sq_e hf σ52 eσ52
  refine lv_aload_n hx hb dX8_passesAll_209 rfl (lv_at hl 0 rfl) ?_
  refine lv_aload_n hx hb dX8_passesAll_210 rfl (lv_at hl 0 rfl) ?_
  refine lv_aload_n hx hb dX8_passesAll_211 rfl (lv_at hl 0 rfl) ?_
  refine rm_get hx hb hts inM hown hK hB 40 (Nat.le_of_ble_eq_true rfl) qf_247 rfl dX8_passesAll_212 ?_
  obtain ⟨r53, σ54, hkr53, hf⟩ := bd_e hf
  refine rm_calliV (av := [.int (σ52.1 0 40)]) (rest := [.ref (ad 0)]) hx hb hml hown hts hl.1 hK hA hB (cm_passOne l D ad cy n σ52 (σ52.1 0 40) hkr53) (kw_passOne hts ⟨Nat.le_of_ble_eq_true rfl, Nat.le_of_ble_eq_true rfl⟩) rfl rfl (lv_room (Nat.le_of_ble_eq_true rfl)) dX8_passesAll_215 (Nat.le_refl _) (Nat.le_refl _) (fun H locs hB => ?_)
  refine rm_puti hx hb hts inM hown hK hB 40 (Nat.le_of_ble_eq_true rfl) qf_247 (ms_40 _ _ _) rfl pd_40 rfl rfl dX8_passesAll_218 (fun σ55 eσ55 H locs hB => ?_)
  have hf := sq_e hf σ55 eσ55
  refine lv_aload_n hx hb dX8_passesAll_221 rfl (lv_at hl 0 rfl) ?_
  refine lv_aload_n hx hb dX8_passesAll_222 rfl (lv_at hl 0 rfl) ?_
  refine lv_aload_n hx hb dX8_passesAll_223 rfl (lv_at hl 0 rfl) ?_
  refine rm_get hx hb hts inM hown hK hB 41 (Nat.le_of_ble_eq_true rfl) qf_256 rfl dX8_passesAll_224 ?_
  obtain ⟨r56, σ57, hkr56, hf⟩ := bd_e hf
  refine rm_calliV (av := [.int (σ55.1 0 41)]) (rest := [.ref (ad 0)]) hx hb hml hown hts hl.1 hK hA hB (cm_passOne l D ad cy n σ55 (σ55.1 0 41) hkr56) (kw_passOne hts ⟨Nat.le_of_ble_eq_true rfl, Nat.le_of_ble_eq_true rfl⟩) rfl rfl (lv_room (Nat.le_of_ble_eq_true rfl)) dX8_passesAll_227 (Nat.le_refl _) (Nat.le_refl _) (fun H locs hB => ?_)
  refine rm_puti hx hb hts inM hown hK hB 41 (Nat.le_of_ble_eq_true rfl) qf_256 (ms_41 _ _ _) rfl pd_41 rfl rfl dX8_passesAll_230 (fun σ58 eσ58 H locs hB => ?_)
  have hf := sq_e hf σ58 eσ58
  refine lv_aload_n hx hb dX8_passesAll_233 rfl (lv_at hl 0 rfl) ?_
  refine lv_aload_n hx hb dX8_passesAll_234 rfl (lv_at hl 0 rfl) ?_
  refine lv_aload_n hx hb dX8_passesAll_235 rfl (lv_at hl 0 rfl) ?_
  refine rm_get hx hb hts inM hown hK hB 42 (Nat.le_of_ble_eq_true rfl) qf_241 rfl dX8_passesAll_236 ?_
  obtain ⟨r59, σ60, hkr59, hf⟩ := bd_e hf
  refine rm_calliV (av := [.int (σ58.1 0 42)]) (rest := [.ref (ad 0)]) hx hb hml hown hts hl.1 hK hA hB (cm_passOne l D ad cy n σ58 (σ58.1 0 42) hkr59) (kw_passOne hts ⟨Nat.le_of_ble_eq_true rfl, Nat.le_of_ble_eq_true rfl⟩) rfl rfl (lv_room (Nat.le_of_ble_eq_true rfl)) dX8_passesAll_239 (Nat.le_refl _) (Nat.le_refl _) (fun H locs hB => ?_)
  refine rm_puti hx hb hts inM hown hK hB 42 (Nat.le_of_ble_eq_true rfl) qf_241 (ms_42 _ _ _) rfl pd_42 rfl rfl dX8_passesAll_242 (fun σ61 eσ61 H locs hB => ?_)
  have hf := sq_e hf σ61 eσ61
  refine lv_aload_n hx hb dX8_passesAll_245 rfl (lv_at hl 0 rfl) ?_
  refine lv_aload_n hx hb dX8_passesAll_246 rfl (lv_at hl 0 rfl) ?_
  refine lv_aload_n hx hb dX8_passesAll_247 rfl (lv_at hl 0 rfl) ?_
  refine rm_get hx hb hts inM hown hK hB 43 (Nat.le_of_ble_eq_true rfl) qf_262 rfl dX8_passesAll_248 ?_
  obtain ⟨r62, σ63, hkr62, hf⟩ := bd_e hf
  refine rm_calliV (av := [.int (σ61.1 0 43)]) (rest := [.ref (ad 0)]) hx hb hml hown hts hl.1 hK hA hB (cm_passOne l D ad cy n σ61 (σ61.1 0 43) hkr62) (kw_passOne hts ⟨Nat.le_of_ble_eq_true rfl, Nat.le_of_ble_eq_true rfl⟩) rfl rfl (lv_room (Nat.le_of_ble_eq_true rfl)) dX8_passesAll_251 (Nat.le_refl _) (Nat.le_refl _) (fun H locs hB => ?_)
  refine rm_puti hx hb hts inM hown hK hB 43 (Nat.le_of_ble_eq_true rfl) qf_262 (ms_43 _ _ _) rfl pd_43 rfl rfl dX8_passesAll_254 (fun σ64 eσ64 H locs hB => ?_)
  have hf := sq_e hf σ64 eσ64
  refine lv_aload_n hx hb dX8_passesAll_257 rfl (lv_at hl 0 rfl) ?_
  refine lv_aload_n hx hb dX8_passesAll_258 rfl (lv_at hl 0 rfl) ?_
  refine lv_aload_n hx hb dX8_passesAll_259 rfl (lv_at hl 0 rfl) ?_
  refine rm_get hx hb hts inM hown hK hB 44 (Nat.le_of_ble_eq_true rfl) qf_259 rfl dX8_passesAll_260 ?_
  obtain ⟨r65, σ66, hkr65, hf⟩ := bd_e hf
  refine rm_calliV (av := [.int (σ64.1 0 44)]) (rest := [.ref (ad 0)]) hx hb hml hown hts hl.1 hK hA hB (cm_passOne l D ad cy n σ64 (σ64.1 0 44) hkr65) (kw_passOne hts ⟨Nat.le_of_ble_eq_true rfl, Nat.le_of_ble_eq_true rfl⟩) rfl rfl (lv_room (Nat.le_of_ble_eq_true rfl)) dX8_passesAll_263 (Nat.le_refl _) (Nat.le_refl _) (fun H locs hB => ?_)
  refine rm_puti hx hb hts inM hown hK hB 44 (Nat.le_of_ble_eq_true rfl) qf_259 (ms_44 _ _ _) rfl pd_44 rfl rfl dX8_passesAll_266 (fun σ67 eσ67 H locs hB => ?_)
  have hf := sq_e hf σ67 eσ67
  refine lv_aload_n hx hb dX8_passesAll_269 rfl (lv_at hl 0 rfl) ?_
  refine lv_aload_n hx hb dX8_passesAll_270 rfl (lv_at hl 0 rfl) ?_
  refine lv_aload_n hx hb dX8_passesAll_271 rfl (lv_at hl 0 rfl) ?_
  refine rm_get hx hb hts inM hown hK hB 45 (Nat.le_of_ble_eq_true rfl) qf_244 rfl dX8_passesAll_272 ?_
  obtain ⟨r68, σ69, hkr68, hf⟩ := bd_e hf
  refine rm_calliV (av := [.int (σ67.1 0 45)]) (rest := [.ref (ad 0)]) hx hb hml hown hts hl.1 hK hA hB (cm_passOne l D ad cy n σ67 (σ67.1 0 45) hkr68) (kw_passOne hts ⟨Nat.le_of_ble_eq_true rfl, Nat.le_of_ble_eq_true rfl⟩) rfl rfl (lv_room (Nat.le_of_ble_eq_true rfl)) dX8_passesAll_275 (Nat.le_refl _) (Nat.le_refl _) (fun H locs hB => ?_)
  refine rm_puti hx hb hts inM hown hK hB 45 (Nat.le_of_ble_eq_true rfl) qf_244 (ms_45 _ _ _) rfl pd_45 rfl rfl dX8_passesAll_278 (fun σ70 eσ70 H locs hB => ?_)
  have hf := sq_e hf σ70 eσ70
  refine lv_aload_n hx hb dX8_passesAll_281 rfl (lv_at hl 0 rfl) ?_
  refine lv_aload_n hx hb dX8_passesAll_282 rfl (lv_at hl 0 rfl) ?_
  refine lv_aload_n hx hb dX8_passesAll_283 rfl (lv_at hl 0 rfl) ?_
  refine rm_get hx hb hts inM hown hK hB 48 (Nat.le_of_ble_eq_true rfl) qf_282 rfl dX8_passesAll_284 ?_
  obtain ⟨r71, σ72, hkr71, hf⟩ := bd_e hf
  refine rm_calliV (av := [.int (σ70.1 0 48)]) (rest := [.ref (ad 0)]) hx hb hml hown hts hl.1 hK hA hB (cm_passOne l D ad cy n σ70 (σ70.1 0 48) hkr71) (kw_passOne hts ⟨Nat.le_of_ble_eq_true rfl, Nat.le_of_ble_eq_true rfl⟩) rfl rfl (lv_room (Nat.le_of_ble_eq_true rfl)) dX8_passesAll_287 (Nat.le_refl _) (Nat.le_refl _) (fun H locs hB => ?_)
  refine rm_puti hx hb hts inM hown hK hB 48 (Nat.le_of_ble_eq_true rfl) qf_282 (ms_48 _ _ _) rfl pd_48 rfl rfl dX8_passesAll_290 (fun σ73 eσ73 H locs hB => ?_)
  have hf := sq_e hf σ73 eσ73
  refine lv_aload_n hx hb dX8_passesAll_293 rfl (lv_at hl 0 rfl) ?_
  refine lv_aload_n hx hb dX8_passesAll_294 rfl (lv_at hl 0 rfl) ?_
  refine lv_aload_n hx hb dX8_passesAll_295 rfl (lv_at hl 0 rfl) ?_
  refine rm_get hx hb hts inM hown hK hB 49 (Nat.le_of_ble_eq_true rfl) qf_285 rfl dX8_passesAll_296 ?_
  obtain ⟨r74, σ75, hkr74, hf⟩ := bd_e hf
  refine rm_calliV (av := [.int (σ73.1 0 49)]) (rest := [.ref (ad 0)]) hx hb hml hown hts hl.1 hK hA hB (cm_passOne l D ad cy n σ73 (σ73.1 0 49) hkr74) (kw_passOne hts ⟨Nat.le_of_ble_eq_true rfl, Nat.le_of_ble_eq_true rfl⟩) rfl rfl (lv_room (Nat.le_of_ble_eq_true rfl)) dX8_passesAll_299 (Nat.le_refl _) (Nat.le_refl _) (fun H locs hB => ?_)
  refine rm_puti hx hb hts inM hown hK hB 49 (Nat.le_of_ble_eq_true rfl) qf_285 (ms_49 _ _ _) rfl pd_49 rfl rfl dX8_passesAll_302 (fun σ76 eσ76 H locs hB => ?_)
  have hf := sq_e hf σ76 eσ76
  refine lv_aload_n hx hb dX8_passesAll_305 rfl (lv_at hl 0 rfl) ?_
  refine lv_aload_n hx hb dX8_passesAll_306 rfl (lv_at hl 0 rfl) ?_
  refine lv_aload_n hx hb dX8_passesAll_307 rfl (lv_at hl 0 rfl) ?_
  refine rm_get hx hb hts inM hown hK hB 52 (Nat.le_of_ble_eq_true rfl) qf_307 rfl dX8_passesAll_308 ?_
  obtain ⟨r77, σ78, hkr77, hf⟩ := bd_e hf
  refine rm_calliV (av := [.int (σ76.1 0 52)]) (rest := [.ref (ad 0)]) hx hb hml hown hts hl.1 hK hA hB (cm_passOne l D ad cy n σ76 (σ76.1 0 52) hkr77) (kw_passOne hts ⟨Nat.le_of_ble_eq_true rfl, Nat.le_of_ble_eq_true rfl⟩) rfl rfl (lv_room (Nat.le_of_ble_eq_true rfl)) dX8_passesAll_311 (Nat.le_refl _) (Nat.le_refl _) (fun H locs hB => ?_)
  refine rm_puti hx hb hts inM hown hK hB 52 (Nat.le_of_ble_eq_true rfl) qf_307 (ms_52 _ _ _) rfl pd_52 rfl rfl dX8_passesAll_314 (fun σ79 eσ79 H locs hB => ?_)
  have hf := sq_e hf σ79 eσ79
  obtain ⟨rfl, rfl⟩ := so_e hf
  exact rm_vret hx hb hr hlocks hK hB dX8_passesAll_317
theorem cm_passesAll (l : Launch) (D : va_G) (ad : Nat → Nat) (cy : ClassId) (n : Nat) (σ : MS) {r0 : Int32} {σ0 : MS} (hf : fm_passesAll n σ = some (r0, σ0)) : mMv l yX8_passesAll wn_passesAll rm_passesAll D ad cy [.ref (ad 0)] σ σ0 :=
  rm_metv (ret := none) (by decide) rfl (Nat.le_of_ble_eq_true rfl) (fun p e s m below meth c A ls hc hK hA hB hl => tbm_passesAll_0 hc hK hA n σ hB hl hf)
theorem kw_passesAll {R : Room} {s : State} {args : Array Value} (hts : ∀ w ∈ wsM, w.before args s = true) (hR : rm_passesAll.frames + 1 ≤ R.frames ∧ 8 + (1 + 11) + rm_passesAll.locals ≤ R.locals) : CallW R s args RX8 RX8 329 yX8_passesAll cX8_passesAll 1 none wn_passesAll rm_passesAll 0 0 0 := cwV 0 hts (gM_v qw_229 qw_230 qw_231 qw_37 qw_226) rfl rfl rfl (by decide +kernel) hR
/-! image -/
abbrev rm_image : Room := { frames := 2, cells := 0, slots := 0, locals := 42 }
abbrev wn_image : List Cond := .code yX8_image cX8_image 1 (some .int) :: wsM
def fm_image (n : Nat) (σ : MS) : Option (Int32 × MS) := sq (mp σ 0 55 1) (fun σ1 => sq (mp σ1 0 54 1) (fun σ2 => bd (fm_passesAll n σ2) (fun _ σ4 => sq (mq σ4 57 (σ4.2 46)) (fun σ5 => some ((σ5.1 0 11), σ5)))))
set_option maxRecDepth 100000 in
set_option maxHeartbeats 4000000 in
theorem tbm_image_0 {p : Program} {l : Launch} {e : Env} {s : State} {m : MethodId} {args : Array Value} {below : List Frame} {meth : Method} {c : Code} {D : va_G} {A : Nat → Prop} {ad : Nat → Nat} {cy : ClassId} {r0 : Int32} {σ0 : MS} (hc : cxB RX8 wsM cX8_image 1 (some .int) p s m args meth c) (hK : va_K D vwCl [(cy, .int)] s) (hA : ∀ q, s.heap.size ≤ q → A q) (n : Nat) (σ : MS) {H : Heap} {locs : List Loc} {ls : Array Slot} (hB : mB D ad cy A s.heap σ H locs) (hl : lv_has ls 1 [(0, .ref (ad 0))]) (hf : fm_image n σ = some (r0, σ0)) : W p l e rm_image s m args below meth c H locs 0 0 (MQ below (mQi D ad cy A r0 σ0) args s 0 0 A) (F0 m 0 ls []) := by
  obtain ⟨hx, hb, hml, hown, hts, hr, hlocks⟩ := id hc
  unfold fm_image at hf
  refine lv_aload_n hx hb dX8_image_0 rfl (lv_at hl 0 rfl) ?_
  refine lv_iconst (v := 1) hx hb dX8_image_1 (by decide) ?_
  refine rm_puti hx hb hts inM hown hK hB 55 (Nat.le_of_ble_eq_true rfl) qf_313 (ms_55 _ _ _) rfl pd_55 rfl rfl dX8_image_2 (fun σ1 eσ1 H locs hB => ?_)
  have hf := sq_e hf σ1 eσ1
  refine lv_aload_n hx hb dX8_image_5 rfl (lv_at hl 0 rfl) ?_
  refine lv_iconst (v := 1) hx hb dX8_image_6 (by decide) ?_
  refine rm_puti hx hb hts inM hown hK hB 54 (Nat.le_of_ble_eq_true rfl) qf_326 (ms_54 _ _ _) rfl pd_54 rfl rfl dX8_image_7 (fun σ2 eσ2 H locs hB => ?_)
  have hf := sq_e hf σ2 eσ2
  refine lv_aload_n hx hb dX8_image_10 rfl (lv_at hl 0 rfl) ?_
  obtain ⟨r3, σ4, hkr3, hf⟩ := bd_e hf
  refine rm_callvV (av := []) (rest := []) hx hb hml hown hts hl.1 hK hA hB (cm_passesAll l D ad cy n σ2 hkr3) (kw_passesAll hts ⟨Nat.le_of_ble_eq_true rfl, Nat.le_of_ble_eq_true rfl⟩) rfl rfl (lv_room (Nat.le_of_ble_eq_true rfl)) dX8_image_11 (Nat.le_refl _) (Nat.le_refl _) (fun H locs hB => ?_)
  refine lv_aload_n hx hb dX8_image_14 rfl (lv_at hl 0 rfl) ?_
  refine lv_aload_n hx hb dX8_image_15 rfl (lv_at hl 0 rfl) ?_
  refine rm_get hx hb hts inM hown hK hB 46 (Nat.le_of_ble_eq_true rfl) qf_265 rfl dX8_image_16 ?_
  refine rm_putl hx hb hts inM hown hK hB 57 (Nat.le_of_ble_eq_true rfl) qf_332 (ms_57 _ _ _) rfl pd_57 dX8_image_19 (fun σ5 eσ5 H locs hB => ?_)
  have hf := sq_e hf σ5 eσ5
  refine lv_aload_n hx hb dX8_image_22 rfl (lv_at hl 0 rfl) ?_
  refine rm_get hx hb hts inM hown hK hB 11 (Nat.le_of_ble_eq_true rfl) qf_123 rfl dX8_image_23 ?_
  obtain ⟨rfl, rfl⟩ := so_e hf
  exact rm_iret hx hb hr hlocks hK hB dX8_image_26
theorem cm_image (l : Launch) (D : va_G) (ad : Nat → Nat) (cy : ClassId) (n : Nat) (σ : MS) {r0 : Int32} {σ0 : MS} (hf : fm_image n σ = some (r0, σ0)) : mMi l yX8_image wn_image rm_image D ad cy [.ref (ad 0)] σ r0 σ0 :=
  rm_meti (ret := (some .int)) (by decide) rfl (Nat.le_of_ble_eq_true rfl) (fun p e s m below meth c A ls hc hK hA hB hl => tbm_image_0 hc hK hA n σ hB hl hf)
/-! restore -/
abbrev rm_restore : Room := { frames := 2, cells := 0, slots := 0, locals := 42 }
abbrev wn_restore : List Cond := .code yX8_restore cX8_restore 1 (some .int) :: wsM
def fm_restore (n : Nat) (σ : MS) : Option (Int32 × MS) := if ((σ.1 0 54) = 0) then (bd (fm_no n σ (-3)) (fun r6 σ7 => some (r6, σ7))) else (sq (mp σ 0 55 0) (fun σ2 => bd (fm_passesAll n σ2) (fun _ σ4 => sq (mq σ4 46 (σ4.2 57)) (fun σ5 => some ((σ5.1 0 11), σ5)))))
set_option maxRecDepth 100000 in
set_option maxHeartbeats 4000000 in
theorem tbm_restore_0 {p : Program} {l : Launch} {e : Env} {s : State} {m : MethodId} {args : Array Value} {below : List Frame} {meth : Method} {c : Code} {D : va_G} {A : Nat → Prop} {ad : Nat → Nat} {cy : ClassId} {r0 : Int32} {σ0 : MS} (hc : cxB RX8 wsM cX8_restore 1 (some .int) p s m args meth c) (hK : va_K D vwCl [(cy, .int)] s) (hA : ∀ q, s.heap.size ≤ q → A q) (n : Nat) (σ : MS) {H : Heap} {locs : List Loc} {ls : Array Slot} (hB : mB D ad cy A s.heap σ H locs) (hl : lv_has ls 1 [(0, .ref (ad 0))]) (hf : fm_restore n σ = some (r0, σ0)) : W p l e rm_restore s m args below meth c H locs 0 0 (MQ below (mQi D ad cy A r0 σ0) args s 0 0 A) (F0 m 0 ls []) := by
  obtain ⟨hx, hb, hml, hown, hts, hr, hlocks⟩ := id hc
  unfold fm_restore at hf
  refine lv_aload_n hx hb dX8_restore_0 rfl (lv_at hl 0 rfl) ?_
  refine rm_get hx hb hts inM hown hK hB 54 (Nat.le_of_ble_eq_true rfl) qf_326 rfl dX8_restore_1 ?_
  refine lv_if_ne (tgt := 14) hx hb dX8_restore_4 (by decide) (fun c1 => ?_) (fun c1 => ?_)
  · have hf := it_f hf c1
    refine lv_aload_n hx hb dX8_restore_14 rfl (lv_at hl 0 rfl) ?_
    refine lv_iconst (v := 0) hx hb dX8_restore_15 (by decide) ?_
    refine rm_puti hx hb hts inM hown hK hB 55 (Nat.le_of_ble_eq_true rfl) qf_313 (ms_55 _ _ _) rfl pd_55 rfl rfl dX8_restore_16 (fun σ2 eσ2 H locs hB => ?_)
    have hf := sq_e hf σ2 eσ2
    refine lv_aload_n hx hb dX8_restore_19 rfl (lv_at hl 0 rfl) ?_
    obtain ⟨r3, σ4, hkr3, hf⟩ := bd_e hf
    refine rm_callvV (av := []) (rest := []) hx hb hml hown hts hl.1 hK hA hB (cm_passesAll l D ad cy n σ2 hkr3) (kw_passesAll hts ⟨Nat.le_of_ble_eq_true rfl, Nat.le_of_ble_eq_true rfl⟩) rfl rfl (lv_room (Nat.le_of_ble_eq_true rfl)) dX8_restore_20 (Nat.le_refl _) (Nat.le_refl _) (fun H locs hB => ?_)
    refine lv_aload_n hx hb dX8_restore_23 rfl (lv_at hl 0 rfl) ?_
    refine lv_aload_n hx hb dX8_restore_24 rfl (lv_at hl 0 rfl) ?_
    refine rm_get hx hb hts inM hown hK hB 57 (Nat.le_of_ble_eq_true rfl) qf_332 rfl dX8_restore_25 ?_
    refine rm_putl hx hb hts inM hown hK hB 46 (Nat.le_of_ble_eq_true rfl) qf_265 (ms_46 _ _ _) rfl pd_46 dX8_restore_28 (fun σ5 eσ5 H locs hB => ?_)
    have hf := sq_e hf σ5 eσ5
    refine lv_aload_n hx hb dX8_restore_31 rfl (lv_at hl 0 rfl) ?_
    refine rm_get hx hb hts inM hown hK hB 11 (Nat.le_of_ble_eq_true rfl) qf_123 rfl dX8_restore_32 ?_
    obtain ⟨rfl, rfl⟩ := so_e hf
    exact rm_iret hx hb hr hlocks hK hB dX8_restore_35
  · have hf := it_t hf c1
    refine lv_aload_n hx hb dX8_restore_7 rfl (lv_at hl 0 rfl) ?_
    refine lv_bipush (v := (-3)) hx hb dX8_restore_8 (by decide) ?_
    obtain ⟨r6, σ7, hkr6, hf⟩ := bd_e hf
    refine rm_calliV (av := [.int (-3)]) (rest := []) hx hb hml hown hts hl.1 hK hA hB (cm_no l D ad cy n σ (-3) hkr6) (kw_no hts ⟨Nat.le_of_ble_eq_true rfl, Nat.le_of_ble_eq_true rfl⟩) rfl rfl (lv_room (Nat.le_of_ble_eq_true rfl)) dX8_restore_10 (Nat.le_refl _) (Nat.le_refl _) (fun H locs hB => ?_)
    obtain ⟨rfl, rfl⟩ := so_e hf
    exact rm_iret hx hb hr hlocks hK hB dX8_restore_13
theorem cm_restore (l : Launch) (D : va_G) (ad : Nat → Nat) (cy : ClassId) (n : Nat) (σ : MS) {r0 : Int32} {σ0 : MS} (hf : fm_restore n σ = some (r0, σ0)) : mMi l yX8_restore wn_restore rm_restore D ad cy [.ref (ad 0)] σ r0 σ0 :=
  rm_meti (ret := (some .int)) (by decide) rfl (Nat.le_of_ble_eq_true rfl) (fun p e s m below meth c A ls hc hK hA hB hl => tbm_restore_0 hc hK hA n σ hB hl hf)
/-! count -/
abbrev rm_count : Room := { frames := 1, cells := 0, slots := 0, locals := 22 }
abbrev wn_count : List Cond := .code yX8_count cX8_count 2 (some .int) :: wsM
def fm_count (n : Nat) (σ : MS) (x1 : Int32) : Option (Int32 × MS) := bd (fm_isIn n σ x1 11 16) (fun r1 σ2 => if (r1 = 0) then (if (x1 = 0) then (some ((σ2.1 0 11), σ2)) else (if (x1 = 1) then (some ((σ2.1 0 21), σ2)) else (if (x1 = 2) then (some ((σ2.1 0 48), σ2)) else (if (x1 = 3) then (bd (fm_heardMany n σ2) (fun r11 σ12 => some (r11, σ12))) else (if (x1 = 4) then (some ((σ2.1 0 52), σ2)) else (if (x1 = 5) then (some ((σ2.1 0 9), σ2)) else (if (x1 = 6) then (some ((σ2.1 0 12), σ2)) else (some ((-9), σ2))))))))) else (ck (ib (x1 - 10) 7) (sq ((σ2.1 1 (Int32.toNatClampNeg (x1 - 10))) : Int32) (fun y14 => some (y14, σ2)))))
set_option maxRecDepth 100000 in
set_option maxHeartbeats 4000000 in
theorem tbm_count_0 {p : Program} {l : Launch} {e : Env} {s : State} {m : MethodId} {args : Array Value} {below : List Frame} {meth : Method} {c : Code} {D : va_G} {A : Nat → Prop} {ad : Nat → Nat} {cy : ClassId} {r0 : Int32} {σ0 : MS} (hc : cxB RX8 wsM cX8_count 2 (some .int) p s m args meth c) (hK : va_K D vwCl [(cy, .int)] s) (hA : ∀ q, s.heap.size ≤ q → A q) (n : Nat) (σ : MS) (x1 : Int32) {H : Heap} {locs : List Loc} {ls : Array Slot} (hB : mB D ad cy A s.heap σ H locs) (hl : lv_has ls 2 [(0, .ref (ad 0)), (1, .int x1)]) (hf : fm_count n σ x1 = some (r0, σ0)) : W p l e rm_count s m args below meth c H locs 0 0 (MQ below (mQi D ad cy A r0 σ0) args s 0 0 A) (F0 m 0 ls []) := by
  obtain ⟨hx, hb, hml, hown, hts, hr, hlocks⟩ := id hc
  unfold fm_count at hf
  refine lv_iload_n hx hb dX8_count_0 rfl (lv_at hl 1 rfl) ?_
  refine lv_bipush (v := 11) hx hb dX8_count_1 (by decide) ?_
  refine lv_bipush (v := 16) hx hb dX8_count_3 (by decide) ?_
  obtain ⟨r1, σ2, hkr1, hf⟩ := bd_e hf
  refine rm_calliS (av := [.int x1, .int 11, .int 16]) (rest := []) hx hb hml hown hts hl.1 hK hA hB (cm_isIn l D ad cy n σ x1 11 16 hkr1) (kw_isIn hts ⟨Nat.le_of_ble_eq_true rfl, Nat.le_of_ble_eq_true rfl⟩) rfl rfl (lv_room (Nat.le_of_ble_eq_true rfl)) dX8_count_5 (Nat.le_refl _) (Nat.le_refl _) (fun H locs hB => ?_)
  refine lv_if_eq (tgt := 21) hx hb dX8_count_8 (by decide) (fun c3 => ?_) (fun c3 => ?_)
  · have hf := it_t hf c3
    refine lv_iload_n hx hb dX8_count_21 rfl (lv_at hl 1 rfl) ?_
    by_cases c4 : x1 = 0
    · have hf := it_t hf c4
      refine lv_tableIn (tgt := 64) hx hb dX8_count_22 (by rw [c4]; decide) (by rw [c4]; decide) (by rw [c4]; rfl) (by decide) ?_
      refine lv_aload_n hx hb dX8_count_64 rfl (lv_at hl 0 rfl) ?_
      refine rm_get hx hb hts inM hown hK hB 11 (Nat.le_of_ble_eq_true rfl) qf_123 rfl dX8_count_65 ?_
      obtain ⟨rfl, rfl⟩ := so_e hf
      exact rm_iret hx hb hr hlocks hK hB dX8_count_68
    · have hf := it_f hf c4
      by_cases c5 : x1 = 1
      · have hf := it_t hf c5
        refine lv_tableIn (tgt := 69) hx hb dX8_count_22 (by rw [c5]; decide) (by rw [c5]; decide) (by rw [c5]; rfl) (by decide) ?_
        refine lv_aload_n hx hb dX8_count_69 rfl (lv_at hl 0 rfl) ?_
        refine rm_get hx hb hts inM hown hK hB 21 (Nat.le_of_ble_eq_true rfl) qf_155 rfl dX8_count_70 ?_
        obtain ⟨rfl, rfl⟩ := so_e hf
        exact rm_iret hx hb hr hlocks hK hB dX8_count_73
      · have hf := it_f hf c5
        by_cases c6 : x1 = 2
        · have hf := it_t hf c6
          refine lv_tableIn (tgt := 74) hx hb dX8_count_22 (by rw [c6]; decide) (by rw [c6]; decide) (by rw [c6]; rfl) (by decide) ?_
          refine lv_aload_n hx hb dX8_count_74 rfl (lv_at hl 0 rfl) ?_
          refine rm_get hx hb hts inM hown hK hB 48 (Nat.le_of_ble_eq_true rfl) qf_282 rfl dX8_count_75 ?_
          obtain ⟨rfl, rfl⟩ := so_e hf
          exact rm_iret hx hb hr hlocks hK hB dX8_count_78
        · have hf := it_f hf c6
          by_cases c7 : x1 = 3
          · have hf := it_t hf c7
            refine lv_tableIn (tgt := 79) hx hb dX8_count_22 (by rw [c7]; decide) (by rw [c7]; decide) (by rw [c7]; rfl) (by decide) ?_
            refine lv_aload_n hx hb dX8_count_79 rfl (lv_at hl 0 rfl) ?_
            obtain ⟨r11, σ12, hkr11, hf⟩ := bd_e hf
            refine rm_calliV (av := []) (rest := []) hx hb hml hown hts hl.1 hK hA hB (cm_heardMany l D ad cy n σ2 hkr11) (kw_heardMany hts ⟨Nat.le_of_ble_eq_true rfl, Nat.le_of_ble_eq_true rfl⟩) rfl rfl (lv_room (Nat.le_of_ble_eq_true rfl)) dX8_count_80 (Nat.le_refl _) (Nat.le_refl _) (fun H locs hB => ?_)
            obtain ⟨rfl, rfl⟩ := so_e hf
            exact rm_iret hx hb hr hlocks hK hB dX8_count_83
          · have hf := it_f hf c7
            by_cases c8 : x1 = 4
            · have hf := it_t hf c8
              refine lv_tableIn (tgt := 84) hx hb dX8_count_22 (by rw [c8]; decide) (by rw [c8]; decide) (by rw [c8]; rfl) (by decide) ?_
              refine lv_aload_n hx hb dX8_count_84 rfl (lv_at hl 0 rfl) ?_
              refine rm_get hx hb hts inM hown hK hB 52 (Nat.le_of_ble_eq_true rfl) qf_307 rfl dX8_count_85 ?_
              obtain ⟨rfl, rfl⟩ := so_e hf
              exact rm_iret hx hb hr hlocks hK hB dX8_count_88
            · have hf := it_f hf c8
              by_cases c9 : x1 = 5
              · have hf := it_t hf c9
                refine lv_tableIn (tgt := 89) hx hb dX8_count_22 (by rw [c9]; decide) (by rw [c9]; decide) (by rw [c9]; rfl) (by decide) ?_
                refine lv_aload_n hx hb dX8_count_89 rfl (lv_at hl 0 rfl) ?_
                refine rm_get hx hb hts inM hown hK hB 9 (Nat.le_of_ble_eq_true rfl) qf_90 rfl dX8_count_90 ?_
                obtain ⟨rfl, rfl⟩ := so_e hf
                exact rm_iret hx hb hr hlocks hK hB dX8_count_93
              · have hf := it_f hf c9
                by_cases c10 : x1 = 6
                · have hf := it_t hf c10
                  refine lv_tableIn (tgt := 94) hx hb dX8_count_22 (by rw [c10]; decide) (by rw [c10]; decide) (by rw [c10]; rfl) (by decide) ?_
                  refine lv_aload_n hx hb dX8_count_94 rfl (lv_at hl 0 rfl) ?_
                  refine rm_get hx hb hts inM hown hK hB 12 (Nat.le_of_ble_eq_true rfl) qf_37 rfl dX8_count_95 ?_
                  obtain ⟨rfl, rfl⟩ := so_e hf
                  exact rm_iret hx hb hr hlocks hK hB dX8_count_98
                · have hf := it_f hf c10
                  refine sw_d (tgt := 99) hx hb dX8_count_22 (by have n_0 := lv_neT c4 (a := 0) (by decide); have n_1 := lv_neT c5 (a := 1) (by decide); have n_2 := lv_neT c6 (a := 2) (by decide); have n_3 := lv_neT c7 (a := 3) (by decide); have n_4 := lv_neT c8 (a := 4) (by decide); have n_5 := lv_neT c9 (a := 5) (by decide); have n_6 := lv_neT c10 (a := 6) (by decide); rcases (show (x1).toInt < 0 ∨ 6 < (x1).toInt by omega) with q | q; exact Or.inl q; exact Or.inr (Or.inl q)) (by decide) ?_
                  refine lv_bipush (v := (-9)) hx hb dX8_count_99 (by decide) ?_
                  obtain ⟨rfl, rfl⟩ := so_e hf
                  exact rm_iret hx hb hr hlocks hK hB dX8_count_101
  · have hf := it_f hf c3
    refine lv_aload_n hx hb dX8_count_11 rfl (lv_at hl 0 rfl) ?_
    refine rm_get hx hb hts inM hown hK hB 0 (Nat.le_of_ble_eq_true rfl) qf_7 rfl dX8_count_12 ?_
    refine lv_iload_n hx hb dX8_count_15 rfl (lv_at hl 1 rfl) ?_
    refine lv_bipush (v := 10) hx hb dX8_count_16 (by decide) ?_
    refine lv_isub hx hb dX8_count_18 ?_
    obtain ⟨k13, hf⟩ := ck_e hf
    refine rm_ald hx hb hK hB 1 rfl k13 dX8_count_19 ?_
    refine lv_topi (fun y14 ey14 => ?_)
    have hf := sq_e hf y14 ey14
    obtain ⟨rfl, rfl⟩ := so_e hf
    exact rm_iret hx hb hr hlocks hK hB dX8_count_20
theorem cm_count (l : Launch) (D : va_G) (ad : Nat → Nat) (cy : ClassId) (n : Nat) (σ : MS) (x1 : Int32) {r0 : Int32} {σ0 : MS} (hf : fm_count n σ x1 = some (r0, σ0)) : mMi l yX8_count wn_count rm_count D ad cy [.ref (ad 0), .int x1] σ r0 σ0 :=
  rm_meti (ret := (some .int)) (by decide) rfl (Nat.le_of_ble_eq_true rfl) (fun p e s m below meth c A ls hc hK hA hB hl => tbm_count_0 hc hK hA n σ x1 hB hl hf)
