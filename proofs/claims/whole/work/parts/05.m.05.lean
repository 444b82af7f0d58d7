/-! state -/
abbrev rm_state : Room := { frames := 1, cells := 0, slots := 0, locals := 22 }
abbrev wn_state : List Cond := .code yX8_state cX8_state 2 (some .int) :: wsM
def fm_state (n : Nat) (σ : MS) (x1 : Int32) : Option (Int32 × MS) := if ((σ.1 0 38) = 0) then (bd (fm_no n σ (-3)) (fun r13 σ14 => some (r13, σ14))) else (if (x1 = 0) then (some ((σ.1 0 39), σ)) else (if (x1 = 1) then (some ((σ.1 0 40), σ)) else (if (x1 = 2) then (bd (fm_toneOf n σ (σ.1 0 39) (σ.1 0 40)) (fun r11 σ12 => some (r11, σ12))) else (if (x1 = 3) then (some ((σ.1 0 42), σ)) else (if (x1 = 4) then (some ((σ.1 0 43), σ)) else (if (x1 = 5) then (some ((σ.1 0 41), σ)) else (if (x1 = 6) then (some ((σ.1 0 45), σ)) else (bd (fm_no n σ (-2)) (fun r2 σ3 => some (r2, σ3))))))))))
set_option maxRecDepth 100000 in
set_option maxHeartbeats 4000000 in
theorem tbm_state_0 {p : Program} {l : Launch} {e : Env} {s : State} {m : MethodId} {args : Array Value} {below : List Frame} {meth : Method} {c : Code} {D : va_G} {A : Nat → Prop} {ad : Nat → Nat} {cy : ClassId} {r0 : Int32} {σ0 : MS} (hc : cxB RX8 wsM cX8_state 2 (some .int) p s m args meth c) (hK : va_K D vwCl [(cy, .int)] s) (hA : ∀ q, s.heap.size ≤ q → A q) (n : Nat) (σ : MS) (x1 : Int32) {H : Heap} {locs : List Loc} {ls : Array Slot} (hB : mB D ad cy A s.heap σ H locs) (hl : lv_has ls 2 [(0, .ref (ad 0)), (1, .int x1)]) (hf : fm_state n σ x1 = some (r0, σ0)) : W p l e rm_state s m args below meth c H locs 0 0 (MQ below (mQi D ad cy A r0 σ0) args s 0 0 A) (F0 m 0 ls []) := by
  obtain ⟨hx, hb, hml, hown, hts, hr, hlocks⟩ := id hc
  unfold fm_state at hf
  refine lv_aload_n hx hb dX8_state_0 rfl (lv_at hl 0 rfl) ?_
  refine rm_get hx hb hts inM hown hK hB 38 (Nat.le_of_ble_eq_true rfl) qf_253 rfl dX8_state_1 ?_
  refine lv_if_ne (tgt := 14) hx hb dX8_state_4 (by decide) (fun c1 => ?_) (fun c1 => ?_)
  · have hf := it_f hf c1
    refine lv_iload_n hx hb dX8_state_14 rfl (lv_at hl 1 rfl) ?_
    by_cases c4 : x1 = 0
    · have hf := it_t hf c4
      refine lv_tableIn (tgt := 56) hx hb dX8_state_15 (by rw [c4]; decide) (by rw [c4]; decide) (by rw [c4]; rfl) (by decide) ?_
      refine lv_aload_n hx hb dX8_state_56 rfl (lv_at hl 0 rfl) ?_
      refine rm_get hx hb hts inM hown hK hB 39 (Nat.le_of_ble_eq_true rfl) qf_250 rfl dX8_state_57 ?_
      obtain ⟨rfl, rfl⟩ := so_e hf
      exact rm_iret hx hb hr hlocks hK hB dX8_state_60
    · have hf := it_f hf c4
      by_cases c5 : x1 = 1
      · have hf := it_t hf c5
        refine lv_tableIn (tgt := 61) hx hb dX8_state_15 (by rw [c5]; decide) (by rw [c5]; decide) (by rw [c5]; rfl) (by decide) ?_
        refine lv_aload_n hx hb dX8_state_61 rfl (lv_at hl 0 rfl) ?_
        refine rm_get hx hb hts inM hown hK hB 40 (Nat.le_of_ble_eq_true rfl) qf_247 rfl dX8_state_62 ?_
        obtain ⟨rfl, rfl⟩ := so_e hf
        exact rm_iret hx hb hr hlocks hK hB dX8_state_65
      · have hf := it_f hf c5
        by_cases c6 : x1 = 2
        · have hf := it_t hf c6
          refine lv_tableIn (tgt := 66) hx hb dX8_state_15 (by rw [c6]; decide) (by rw [c6]; decide) (by rw [c6]; rfl) (by decide) ?_
          refine lv_aload_n hx hb dX8_state_66 rfl (lv_at hl 0 rfl) ?_
          refine lv_aload_n hx hb dX8_state_67 rfl (lv_at hl 0 rfl) ?_
          refine rm_get hx hb hts inM hown hK hB 39 (Nat.le_of_ble_eq_true rfl) qf_250 rfl dX8_state_68 ?_
          refine lv_aload_n hx hb dX8_state_71 rfl (lv_at hl 0 rfl) ?_
          refine rm_get hx hb hts inM hown hK hB 40 (Nat.le_of_ble_eq_true rfl) qf_247 rfl dX8_state_72 ?_
          obtain ⟨r11, σ12, hkr11, hf⟩ := bd_e hf
          refine rm_calliV (av := [.int (σ.1 0 39), .int (σ.1 0 40)]) (rest := []) hx hb hml hown hts hl.1 hK hA hB (cm_toneOf l D ad cy n σ (σ.1 0 39) (σ.1 0 40) hkr11) (kw_toneOf hts ⟨Nat.le_of_ble_eq_true rfl, Nat.le_of_ble_eq_true rfl⟩) rfl rfl (lv_room (Nat.le_of_ble_eq_true rfl)) dX8_state_75 (Nat.le_refl _) (Nat.le_refl _) (fun H locs hB => ?_)
          obtain ⟨rfl, rfl⟩ := so_e hf
          exact rm_iret hx hb hr hlocks hK hB dX8_state_78
        · have hf := it_f hf c6
          by_cases c7 : x1 = 3
          · have hf := it_t hf c7
            refine lv_tableIn (tgt := 79) hx hb dX8_state_15 (by rw [c7]; decide) (by rw [c7]; decide) (by rw [c7]; rfl) (by decide) ?_
            refine lv_aload_n hx hb dX8_state_79 rfl (lv_at hl 0 rfl) ?_
            refine rm_get hx hb hts inM hown hK hB 42 (Nat.le_of_ble_eq_true rfl) qf_241 rfl dX8_state_80 ?_
            obtain ⟨rfl, rfl⟩ := so_e hf
            exact rm_iret hx hb hr hlocks hK hB dX8_state_83
          · have hf := it_f hf c7
            by_cases c8 : x1 = 4
            · have hf := it_t hf c8
              refine lv_tableIn (tgt := 84) hx hb dX8_state_15 (by rw [c8]; decide) (by rw [c8]; decide) (by rw [c8]; rfl) (by decide) ?_
              refine lv_aload_n hx hb dX8_state_84 rfl (lv_at hl 0 rfl) ?_
              refine rm_get hx hb hts inM hown hK hB 43 (Nat.le_of_ble_eq_true rfl) qf_262 rfl dX8_state_85 ?_
              obtain ⟨rfl, rfl⟩ := so_e hf
              exact rm_iret hx hb hr hlocks hK hB dX8_state_88
            · have hf := it_f hf c8
              by_cases c9 : x1 = 5
              · have hf := it_t hf c9
                refine lv_tableIn (tgt := 89) hx hb dX8_state_15 (by rw [c9]; decide) (by rw [c9]; decide) (by rw [c9]; rfl) (by decide) ?_
                refine lv_aload_n hx hb dX8_state_89 rfl (lv_at hl 0 rfl) ?_
                refine rm_get hx hb hts inM hown hK hB 41 (Nat.le_of_ble_eq_true rfl) qf_256 rfl dX8_state_90 ?_
                obtain ⟨rfl, rfl⟩ := so_e hf
                exact rm_iret hx hb hr hlocks hK hB dX8_state_93
              · have hf := it_f hf c9
                by_cases c10 : x1 = 6
                · have hf := it_t hf c10
                  refine lv_tableIn (tgt := 94) hx hb dX8_state_15 (by rw [c10]; decide) (by rw [c10]; decide) (by rw [c10]; rfl) (by decide) ?_
                  refine lv_aload_n hx hb dX8_state_94 rfl (lv_at hl 0 rfl) ?_
                  refine rm_get hx hb hts inM hown hK hB 45 (Nat.le_of_ble_eq_true rfl) qf_244 rfl dX8_state_95 ?_
                  obtain ⟨rfl, rfl⟩ := so_e hf
                  exact rm_iret hx hb hr hlocks hK hB dX8_state_98
                · have hf := it_f hf c10
                  refine sw_d (tgt := 99) hx hb dX8_state_15 (by have n_0 := lv_neT c4 (a := 0) (by decide); have n_1 := lv_neT c5 (a := 1) (by decide); have n_2 := lv_neT c6 (a := 2) (by decide); have n_3 := lv_neT c7 (a := 3) (by decide); have n_4 := lv_neT c8 (a := 4) (by decide); have n_5 := lv_neT c9 (a := 5) (by decide); have n_6 := lv_neT c10 (a := 6) (by decide); rcases (show (x1).toInt < 0 ∨ 6 < (x1).toInt by omega) with q | q; exact Or.inl q; exact Or.inr (Or.inl q)) (by decide) ?_
                  refine lv_aload_n hx hb dX8_state_99 rfl (lv_at hl 0 rfl) ?_
                  refine lv_bipush (v := (-2)) hx hb dX8_state_100 (by decide) ?_
                  obtain ⟨r2, σ3, hkr2, hf⟩ := bd_e hf
                  refine rm_calliV (av := [.int (-2)]) (rest := []) hx hb hml hown hts hl.1 hK hA hB (cm_no l D ad cy n σ (-2) hkr2) (kw_no hts ⟨Nat.le_of_ble_eq_true rfl, Nat.le_of_ble_eq_true rfl⟩) rfl rfl (lv_room (Nat.le_of_ble_eq_true rfl)) dX8_state_102 (Nat.le_refl _) (Nat.le_refl _) (fun H locs hB => ?_)
                  obtain ⟨rfl, rfl⟩ := so_e hf
                  exact rm_iret hx hb hr hlocks hK hB dX8_state_105
  · have hf := it_t hf c1
    refine lv_aload_n hx hb dX8_state_7 rfl (lv_at hl 0 rfl) ?_
    refine lv_bipush (v := (-3)) hx hb dX8_state_8 (by decide) ?_
    obtain ⟨r13, σ14, hkr13, hf⟩ := bd_e hf
    refine rm_calliV (av := [.int (-3)]) (rest := []) hx hb hml hown hts hl.1 hK hA hB (cm_no l D ad cy n σ (-3) hkr13) (kw_no hts ⟨Nat.le_of_ble_eq_true rfl, Nat.le_of_ble_eq_true rfl⟩) rfl rfl (lv_room (Nat.le_of_ble_eq_true rfl)) dX8_state_10 (Nat.le_refl _) (Nat.le_refl _) (fun H locs hB => ?_)
    obtain ⟨rfl, rfl⟩ := so_e hf
    exact rm_iret hx hb hr hlocks hK hB dX8_state_13
theorem cm_state (l : Launch) (D : va_G) (ad : Nat → Nat) (cy : ClassId) (n : Nat) (σ : MS) (x1 : Int32) {r0 : Int32} {σ0 : MS} (hf : fm_state n σ x1 = some (r0, σ0)) : mMi l yX8_state wn_state rm_state D ad cy [.ref (ad 0), .int x1] σ r0 σ0 :=
  rm_meti (ret := (some .int)) (by decide) rfl (Nat.le_of_ble_eq_true rfl) (fun p e s m below meth c A ls hc hK hA hB hl => tbm_state_0 hc hK hA n σ x1 hB hl hf)
/-! rolled -/
abbrev rm_rolled : Room := { frames := 1, cells := 0, slots := 0, locals := 21 }
abbrev wn_rolled : List Cond := .code yX8_rolled cX8_rolled 1 (some .long) :: wsM
def fm_rolled (n : Nat) (σ : MS) : Option (Int64 × MS) := if ((σ.1 0 38) = 0) then (bd (fm_no n σ (-3)) (fun r2 σ3 => some ((Int32.toInt64 r2), σ3))) else (some ((σ.2 46), σ))
set_option maxRecDepth 100000 in
set_option maxHeartbeats 4000000 in
theorem tbm_rolled_0 {p : Program} {l : Launch} {e : Env} {s : State} {m : MethodId} {args : Array Value} {below : List Frame} {meth : Method} {c : Code} {D : va_G} {A : Nat → Prop} {ad : Nat → Nat} {cy : ClassId} {r0 : Int64} {σ0 : MS} (hc : cxB RX8 wsM cX8_rolled 1 (some .long) p s m args meth c) (hK : va_K D vwCl [(cy, .int)] s) (hA : ∀ q, s.heap.size ≤ q → A q) (n : Nat) (σ : MS) {H : Heap} {locs : List Loc} {ls : Array Slot} (hB : mB D ad cy A s.heap σ H locs) (hl : lv_has ls 1 [(0, .ref (ad 0))]) (hf : fm_rolled n σ = some (r0, σ0)) : W p l e rm_rolled s m args below meth c H locs 0 0 (MQ below (mQl D ad cy A r0 σ0) args s 0 0 A) (F0 m 0 ls []) := by
  obtain ⟨hx, hb, hml, hown, hts, hr, hlocks⟩ := id hc
  unfold fm_rolled at hf
  refine lv_aload_n hx hb dX8_rolled_0 rfl (lv_at hl 0 rfl) ?_
  refine rm_get hx hb hts inM hown hK hB 38 (Nat.le_of_ble_eq_true rfl) qf_253 rfl dX8_rolled_1 ?_
  refine lv_if_ne (tgt := 17) hx hb dX8_rolled_4 (by decide) (fun c1 => ?_) (fun c1 => ?_)
  · have hf := it_f hf c1
    refine lv_aload_n hx hb dX8_rolled_17 rfl (lv_at hl 0 rfl) ?_
    refine rm_get hx hb hts inM hown hK hB 46 (Nat.le_of_ble_eq_true rfl) qf_265 rfl dX8_rolled_18 ?_
    obtain ⟨rfl, rfl⟩ := so_e hf
    exact rm_lret hx hb hr hlocks hK hB dX8_rolled_21
  · have hf := it_t hf c1
    refine lv_aload_n hx hb dX8_rolled_7 rfl (lv_at hl 0 rfl) ?_
    refine lv_bipush (v := (-3)) hx hb dX8_rolled_8 (by decide) ?_
    obtain ⟨r2, σ3, hkr2, hf⟩ := bd_e hf
    refine rm_calliV (av := [.int (-3)]) (rest := []) hx hb hml hown hts hl.1 hK hA hB (cm_no l D ad cy n σ (-3) hkr2) (kw_no hts ⟨Nat.le_of_ble_eq_true rfl, Nat.le_of_ble_eq_true rfl⟩) rfl rfl (lv_room (Nat.le_of_ble_eq_true rfl)) dX8_rolled_10 (Nat.le_refl _) (Nat.le_refl _) (fun H locs hB => ?_)
    refine lv_i2l hx hb dX8_rolled_13 rfl ?_
    refine lv_goto (tgt := 21) hx hb dX8_rolled_14 (by decide) ?_
    obtain ⟨rfl, rfl⟩ := so_e hf
    exact rm_lret hx hb hr hlocks hK hB dX8_rolled_21
theorem cm_rolled (l : Launch) (D : va_G) (ad : Nat → Nat) (cy : ClassId) (n : Nat) (σ : MS) {r0 : Int64} {σ0 : MS} (hf : fm_rolled n σ = some (r0, σ0)) : mMl l yX8_rolled wn_rolled rm_rolled D ad cy [.ref (ad 0)] σ r0 σ0 :=
  rm_metl (ret := (some .long)) (by decide) rfl (Nat.le_of_ble_eq_true rfl) (fun p e s m below meth c A ls hc hK hA hB hl => tbm_rolled_0 hc hK hA n σ hB hl hf)
/-! tenth -/
abbrev rm_tenth : Room := { frames := 1, cells := 0, slots := 0, locals := 22 }
abbrev wn_tenth : List Cond := .code yX8_tenth cX8_tenth 3 (some .int) :: wsM
def fm_tenth (n : Nat) (σ : MS) (x1 : Int32) (x2 : Int32) : Option (Int32 × MS) := bd (fm_isIn n σ x2 0 1) (fun r1 σ2 => if (r1 = 0) then (bd (fm_no n σ2 (-2)) (fun r16 σ17 => some (r16, σ17))) else (if ((σ2.1 0 38) = 0) then (bd (fm_no n σ2 (-3)) (fun r14 σ15 => some (r14, σ15))) else (if (0 ≤ x1) then (if (x1 < (σ2.1 0 45)) then (if (x2 = 0) then (ck (ib x1 100) (sq ((σ2.1 19 (Int32.toNatClampNeg x1)) : Int32) (fun y11 => some (y11, σ2)))) else (ck (ib x1 100) (sq ((σ2.1 20 (Int32.toNatClampNeg x1)) : Int32) (fun y9 => some (y9, σ2))))) else (some ((-9), σ2))) else (bd (fm_no n σ2 (-4)) (fun r12 σ13 => some (r12, σ13))))))
set_option maxRecDepth 100000 in
set_option maxHeartbeats 4000000 in
theorem tbm_tenth_0 {p : Program} {l : Launch} {e : Env} {s : State} {m : MethodId} {args : Array Value} {below : List Frame} {meth : Method} {c : Code} {D : va_G} {A : Nat → Prop} {ad : Nat → Nat} {cy : ClassId} {r0 : Int32} {σ0 : MS} (hc : cxB RX8 wsM cX8_tenth 3 (some .int) p s m args meth c) (hK : va_K D vwCl [(cy, .int)] s) (hA : ∀ q, s.heap.size ≤ q → A q) (n : Nat) (σ : MS) (x1 : Int32) (x2 : Int32) {H : Heap} {locs : List Loc} {ls : Array Slot} (hB : mB D ad cy A s.heap σ H locs) (hl : lv_has ls 3 [(0, .ref (ad 0)), (1, .int x1), (2, .int x2)]) (hf : fm_tenth n σ x1 x2 = some (r0, σ0)) : W p l e rm_tenth s m args below meth c H locs 0 0 (MQ below (mQi D ad cy A r0 σ0) args s 0 0 A) (F0 m 0 ls []) := by
  obtain ⟨hx, hb, hml, hown, hts, hr, hlocks⟩ := id hc
  unfold fm_tenth at hf
  refine lv_iload_n hx hb dX8_tenth_0 rfl (lv_at hl 2 rfl) ?_
  refine lv_iconst (v := 0) hx hb dX8_tenth_1 (by decide) ?_
  refine lv_iconst (v := 1) hx hb dX8_tenth_2 (by decide) ?_
  obtain ⟨r1, σ2, hkr1, hf⟩ := bd_e hf
  refine rm_calliS (av := [.int x2, .int 0, .int 1]) (rest := []) hx hb hml hown hts hl.1 hK hA hB (cm_isIn l D ad cy n σ x2 0 1 hkr1) (kw_isIn hts ⟨Nat.le_of_ble_eq_true rfl, Nat.le_of_ble_eq_true rfl⟩) rfl rfl (lv_room (Nat.le_of_ble_eq_true rfl)) dX8_tenth_3 (Nat.le_refl _) (Nat.le_refl _) (fun H locs hB => ?_)
  refine lv_if_ne (tgt := 16) hx hb dX8_tenth_6 (by decide) (fun c3 => ?_) (fun c3 => ?_)
  · have hf := it_f hf c3
    refine lv_aload_n hx hb dX8_tenth_16 rfl (lv_at hl 0 rfl) ?_
    refine rm_get hx hb hts inM hown hK hB 38 (Nat.le_of_ble_eq_true rfl) qf_253 rfl dX8_tenth_17 ?_
    refine lv_if_ne (tgt := 30) hx hb dX8_tenth_20 (by decide) (fun c4 => ?_) (fun c4 => ?_)
    · have hf := it_f hf c4
      refine lv_iload_n hx hb dX8_tenth_30 rfl (lv_at hl 1 rfl) ?_
      refine lv_if_ge (tgt := 41) hx hb dX8_tenth_31 (by decide) (fun c5 => ?_) (fun c5 => ?_)
      · have hf := it_t hf c5
        refine lv_iload_n hx hb dX8_tenth_41 rfl (lv_at hl 1 rfl) ?_
        refine lv_aload_n hx hb dX8_tenth_42 rfl (lv_at hl 0 rfl) ?_
        refine rm_get hx hb hts inM hown hK hB 45 (Nat.le_of_ble_eq_true rfl) qf_244 rfl dX8_tenth_43 ?_
        refine lv_icmp_lt (tgt := 54) hx hb dX8_tenth_46 (by decide) (fun c6 => ?_) (fun c6 => ?_)
        · have hf := it_t hf c6
          refine lv_iload_n hx hb dX8_tenth_54 rfl (lv_at hl 2 rfl) ?_
          refine lv_if_ne (tgt := 67) hx hb dX8_tenth_55 (by decide) (fun c7 => ?_) (fun c7 => ?_)
          · have hf := it_f hf c7
            refine lv_aload_n hx hb dX8_tenth_67 rfl (lv_at hl 0 rfl) ?_
            refine rm_get hx hb hts inM hown hK hB 37 (Nat.le_of_ble_eq_true rfl) qf_71 rfl dX8_tenth_68 ?_
            refine lv_iload_n hx hb dX8_tenth_71 rfl (lv_at hl 1 rfl) ?_
            obtain ⟨k8, hf⟩ := ck_e hf
            refine rm_ald hx hb hK hB 20 rfl k8 dX8_tenth_72 ?_
            refine lv_topi (fun y9 ey9 => ?_)
            have hf := sq_e hf y9 ey9
            obtain ⟨rfl, rfl⟩ := so_e hf
            exact rm_iret hx hb hr hlocks hK hB dX8_tenth_73
          · have hf := it_t hf c7
            refine lv_aload_n hx hb dX8_tenth_58 rfl (lv_at hl 0 rfl) ?_
            refine rm_get hx hb hts inM hown hK hB 36 (Nat.le_of_ble_eq_true rfl) qf_68 rfl dX8_tenth_59 ?_
            refine lv_iload_n hx hb dX8_tenth_62 rfl (lv_at hl 1 rfl) ?_
            obtain ⟨k10, hf⟩ := ck_e hf
            refine rm_ald hx hb hK hB 19 rfl k10 dX8_tenth_63 ?_
            refine lv_topi (fun y11 ey11 => ?_)
            have hf := sq_e hf y11 ey11
            refine lv_goto (tgt := 73) hx hb dX8_tenth_64 (by decide) ?_
            obtain ⟨rfl, rfl⟩ := so_e hf
            exact rm_iret hx hb hr hlocks hK hB dX8_tenth_73
        · have hf := it_f hf c6
          refine lv_bipush (v := (-9)) hx hb dX8_tenth_49 (by decide) ?_
          refine lv_goto (tgt := 73) hx hb dX8_tenth_51 (by decide) ?_
          obtain ⟨rfl, rfl⟩ := so_e hf
          exact rm_iret hx hb hr hlocks hK hB dX8_tenth_73
      · have hf := it_f hf c5
        refine lv_aload_n hx hb dX8_tenth_34 rfl (lv_at hl 0 rfl) ?_
        refine lv_bipush (v := (-4)) hx hb dX8_tenth_35 (by decide) ?_
        obtain ⟨r12, σ13, hkr12, hf⟩ := bd_e hf
        refine rm_calliV (av := [.int (-4)]) (rest := []) hx hb hml hown hts hl.1 hK hA hB (cm_no l D ad cy n σ2 (-4) hkr12) (kw_no hts ⟨Nat.le_of_ble_eq_true rfl, Nat.le_of_ble_eq_true rfl⟩) rfl rfl (lv_room (Nat.le_of_ble_eq_true rfl)) dX8_tenth_37 (Nat.le_refl _) (Nat.le_refl _) (fun H locs hB => ?_)
        obtain ⟨rfl, rfl⟩ := so_e hf
        exact rm_iret hx hb hr hlocks hK hB dX8_tenth_40
    · have hf := it_t hf c4
      refine lv_aload_n hx hb dX8_tenth_23 rfl (lv_at hl 0 rfl) ?_
      refine lv_bipush (v := (-3)) hx hb dX8_tenth_24 (by decide) ?_
      obtain ⟨r14, σ15, hkr14, hf⟩ := bd_e hf
      refine rm_calliV (av := [.int (-3)]) (rest := []) hx hb hml hown hts hl.1 hK hA hB (cm_no l D ad cy n σ2 (-3) hkr14) (kw_no hts ⟨Nat.le_of_ble_eq_true rfl, Nat.le_of_ble_eq_true rfl⟩) rfl rfl (lv_room (Nat.le_of_ble_eq_true rfl)) dX8_tenth_26 (Nat.le_refl _) (Nat.le_refl _) (fun H locs hB => ?_)
      obtain ⟨rfl, rfl⟩ := so_e hf
      exact rm_iret hx hb hr hlocks hK hB dX8_tenth_29
  · have hf := it_t hf c3
    refine lv_aload_n hx hb dX8_tenth_9 rfl (lv_at hl 0 rfl) ?_
    refine lv_bipush (v := (-2)) hx hb dX8_tenth_10 (by decide) ?_
    obtain ⟨r16, σ17, hkr16, hf⟩ := bd_e hf
    refine rm_calliV (av := [.int (-2)]) (rest := []) hx hb hml hown hts hl.1 hK hA hB (cm_no l D ad cy n σ2 (-2) hkr16) (kw_no hts ⟨Nat.le_of_ble_eq_true rfl, Nat.le_of_ble_eq_true rfl⟩) rfl rfl (lv_room (Nat.le_of_ble_eq_true rfl)) dX8_tenth_12 (Nat.le_refl _) (Nat.le_refl _) (fun H locs hB => ?_)
    obtain ⟨rfl, rfl⟩ := so_e hf
    exact rm_iret hx hb hr hlocks hK hB dX8_tenth_15
theorem cm_tenth (l : Launch) (D : va_G) (ad : Nat → Nat) (cy : ClassId) (n : Nat) (σ : MS) (x1 : Int32) (x2 : Int32) {r0 : Int32} {σ0 : MS} (hf : fm_tenth n σ x1 x2 = some (r0, σ0)) : mMi l yX8_tenth wn_tenth rm_tenth D ad cy [.ref (ad 0), .int x1, .int x2] σ r0 σ0 :=
  rm_meti (ret := (some .int)) (by decide) rfl (Nat.le_of_ble_eq_true rfl) (fun p e s m below meth c A ls hc hK hA hB hl => tbm_tenth_0 hc hK hA n σ x1 x2 hB hl hf)
/-! lasts -/
abbrev rm_lasts : Room := { frames := 7, cells := 0, slots := 0, locals := 169 }
abbrev wn_lasts : List Cond := .code yX8_lasts cX8_lasts 7 (some .int) :: wsM
def fm_lasts (n : Nat) (σ : MS) (x1 : Int32) (x2 : Int32) (x3 : Int32) (x4 : Int32) : Option (Int32 × MS) := bd (fm_isPlate n σ x1) (fun r1 σ2 => if (r1 = 0) then (bd (fm_no n σ2 (-1)) (fun r4 σ5 => some (r4, σ5))) else (bd (fm_isFloor n σ2 x3) (fun r6 σ7 => if (r6 = 0) then (bd (fm_no n σ7 (-1)) (fun r22 σ23 => some (r22, σ23))) else (bd (fm_isIn n σ7 x4 0 1) (fun r9 σ10 => if (r9 = 0) then (bd (fm_no n σ10 (-2)) (fun r20 σ21 => some (r20, σ21))) else (bd (fm_bound n σ10 x2 0 9000) (fun r12 σ13 => if (r12 = 0) then (bd (fm_lastsOf n σ13 x1 x2 x3) (fun r15 σ16 => if (x4 = 0) then (some (r15, σ16)) else (some ((σ16.1 0 35), σ16)))) else (bd (fm_no n σ13 r12) (fun r18 σ19 => some (r18, σ19))))))))))
set_option maxRecDepth 100000 in
set_option maxHeartbeats 4000000 in
theorem tbm_lasts_0 {p : Program} {l : Launch} {e : Env} {s : State} {m : MethodId} {args : Array Value} {below : List Frame} {meth : Method} {c : Code} {D : va_G} {A : Nat → Prop} {ad : Nat → Nat} {cy : ClassId} {r0 : Int32} {σ0 : MS} (hc : cxB RX8 wsM cX8_lasts 7 (some .int) p s m args meth c) (hK : va_K D vwCl [(cy, .int)] s) (hA : ∀ q, s.heap.size ≤ q → A q) (n : Nat) (σ : MS) (x1 : Int32) (x2 : Int32) (x3 : Int32) (x4 : Int32) {H : Heap} {locs : List Loc} {ls : Array Slot} (hB : mB D ad cy A s.heap σ H locs) (hl : lv_has ls 7 [(0, .ref (ad 0)), (1, .int x1), (2, .int x2), (3, .int x3), (4, .int x4)]) (hf : fm_lasts n σ x1 x2 x3 x4 = some (r0, σ0)) : W p l e rm_lasts s m args below meth c H locs 0 0 (MQ below (mQi D ad cy A r0 σ0) args s 0 0 A) (F0 m 0 ls []) := by
  obtain ⟨hx, hb, hml, hown, hts, hr, hlocks⟩ := id hc
  unfold fm_lasts at hf
  refine lv_aload_n hx hb dX8_lasts_0 rfl (lv_at hl 0 rfl) ?_
  refine lv_iload_n hx hb dX8_lasts_1 rfl (lv_at hl 1 rfl) ?_
  obtain ⟨r1, σ2, hkr1, hf⟩ := bd_e hf
  refine rm_calliV (av := [.int x1]) (rest := []) hx hb hml hown hts hl.1 hK hA hB (cm_isPlate l D ad cy n σ x1 hkr1) (kw_isPlate hts ⟨Nat.le_of_ble_eq_true rfl, Nat.le_of_ble_eq_true rfl⟩) rfl rfl (lv_room (Nat.le_of_ble_eq_true rfl)) dX8_lasts_2 (Nat.le_refl _) (Nat.le_refl _) (fun H locs hB => ?_)
  refine lv_if_eq (tgt := 15) hx hb dX8_lasts_5 (by decide) (fun c3 => ?_) (fun c3 => ?_)
  · have hf := it_t hf c3
    refine lv_aload_n hx hb dX8_lasts_15 rfl (lv_at hl 0 rfl) ?_
    refine lv_iconst (v := (-1)) hx hb dX8_lasts_16 (by decide) ?_
    obtain ⟨r4, σ5, hkr4, hf⟩ := bd_e hf
    refine rm_calliV (av := [.int (-1)]) (rest := []) hx hb hml hown hts hl.1 hK hA hB (cm_no l D ad cy n σ2 (-1) hkr4) (kw_no hts ⟨Nat.le_of_ble_eq_true rfl, Nat.le_of_ble_eq_true rfl⟩) rfl rfl (lv_room (Nat.le_of_ble_eq_true rfl)) dX8_lasts_17 (Nat.le_refl _) (Nat.le_refl _) (fun H locs hB => ?_)
    obtain ⟨rfl, rfl⟩ := so_e hf
    exact rm_iret hx hb hr hlocks hK hB dX8_lasts_20
  · have hf := it_f hf c3
    refine lv_iload_n hx hb dX8_lasts_8 rfl (lv_at hl 3 rfl) ?_
    obtain ⟨r6, σ7, hkr6, hf⟩ := bd_e hf
    refine rm_calliS (av := [.int x3]) (rest := []) hx hb hml hown hts hl.1 hK hA hB (cm_isFloor l D ad cy n σ2 x3 hkr6) (kw_isFloor hts ⟨Nat.le_of_ble_eq_true rfl, Nat.le_of_ble_eq_true rfl⟩) rfl rfl (lv_room (Nat.le_of_ble_eq_true rfl)) dX8_lasts_9 (Nat.le_refl _) (Nat.le_refl _) (fun H locs hB => ?_)
    refine lv_if_ne (tgt := 21) hx hb dX8_lasts_12 (by decide) (fun c8 => ?_) (fun c8 => ?_)
    · have hf := it_f hf c8
      refine lv_iload hx hb dX8_lasts_21 (lv_at hl 4 rfl) ?_
      refine lv_iconst (v := 0) hx hb dX8_lasts_23 (by decide) ?_
      refine lv_iconst (v := 1) hx hb dX8_lasts_24 (by decide) ?_
      obtain ⟨r9, σ10, hkr9, hf⟩ := bd_e hf
      refine rm_calliS (av := [.int x4, .int 0, .int 1]) (rest := []) hx hb hml hown hts hl.1 hK hA hB (cm_isIn l D ad cy n σ7 x4 0 1 hkr9) (kw_isIn hts ⟨Nat.le_of_ble_eq_true rfl, Nat.le_of_ble_eq_true rfl⟩) rfl rfl (lv_room (Nat.le_of_ble_eq_true rfl)) dX8_lasts_25 (Nat.le_refl _) (Nat.le_refl _) (fun H locs hB => ?_)
      refine lv_if_ne (tgt := 38) hx hb dX8_lasts_28 (by decide) (fun c11 => ?_) (fun c11 => ?_)
      · have hf := it_f hf c11
        refine lv_iload_n hx hb dX8_lasts_38 rfl (lv_at hl 2 rfl) ?_
        refine lv_iconst (v := 0) hx hb dX8_lasts_39 (by decide) ?_
        refine lv_sipush (v := 9000) hx hb dX8_lasts_40 (by decide) ?_
        obtain ⟨r12, σ13, hkr12, hf⟩ := bd_e hf
        refine rm_calliS (av := [.int x2, .int 0, .int 9000]) (rest := []) hx hb hml hown hts hl.1 hK hA hB (cm_bound l D ad cy n σ10 x2 0 9000 hkr12) (kw_bound hts ⟨Nat.le_of_ble_eq_true rfl, Nat.le_of_ble_eq_true rfl⟩) rfl rfl (lv_room (Nat.le_of_ble_eq_true rfl)) dX8_lasts_43 (Nat.le_refl _) (Nat.le_refl _) (fun H locs hB => ?_)
        refine lv_istore (lv' := [(5, .int r12), (0, .ref (ad 0)), (1, .int x1), (2, .int x2), (3, .int x3), (4, .int x4)]) hx hb dX8_lasts_46 hl (by decide) rfl (fun ls hl => ?_)
        refine lv_iload hx hb dX8_lasts_48 (lv_at hl 0 rfl) ?_
        refine lv_if_eq (tgt := 60) hx hb dX8_lasts_50 (by decide) (fun c14 => ?_) (fun c14 => ?_)
        · have hf := it_t hf c14
          refine lv_aload_n hx hb dX8_lasts_60 rfl (lv_at hl 1 rfl) ?_
          refine lv_iload_n hx hb dX8_lasts_61 rfl (lv_at hl 2 rfl) ?_
          refine lv_iload_n hx hb dX8_lasts_62 rfl (lv_at hl 3 rfl) ?_
          refine lv_iload_n hx hb dX8_lasts_63 rfl (lv_at hl 4 rfl) ?_
          obtain ⟨r15, σ16, hkr15, hf⟩ := bd_e hf
          refine rm_calliV (av := [.int x1, .int x2, .int x3]) (rest := []) hx hb hml hown hts hl.1 hK hA hB (cm_lastsOf l D ad cy n σ13 x1 x2 x3 hkr15) (kw_lastsOf hts ⟨Nat.le_of_ble_eq_true rfl, Nat.le_of_ble_eq_true rfl⟩) rfl rfl (lv_room (Nat.le_of_ble_eq_true rfl)) dX8_lasts_64 (Nat.le_refl _) (Nat.le_refl _) (fun H locs hB => ?_)
          refine lv_istore (lv' := [(6, .int r15), (5, .int r12), (0, .ref (ad 0)), (1, .int x1), (2, .int x2), (3, .int x3), (4, .int x4)]) hx hb dX8_lasts_67 hl (by decide) rfl (fun ls hl => ?_)
          refine lv_iload hx hb dX8_lasts_69 (lv_at hl 6 rfl) ?_
          refine lv_if_ne (tgt := 79) hx hb dX8_lasts_71 (by decide) (fun c17 => ?_) (fun c17 => ?_)
          · have hf := it_f hf c17
            refine lv_aload_n hx hb dX8_lasts_79 rfl (lv_at hl 2 rfl) ?_
            refine rm_get hx hb hts inM hown hK hB 35 (Nat.le_of_ble_eq_true rfl) qf_225 rfl dX8_lasts_80 ?_
            obtain ⟨rfl, rfl⟩ := so_e hf
            exact rm_iret hx hb hr hlocks hK hB dX8_lasts_83
          · have hf := it_t hf c17
            refine lv_iload hx hb dX8_lasts_74 (lv_at hl 0 rfl) ?_
            refine lv_goto (tgt := 83) hx hb dX8_lasts_76 (by decide) ?_
            obtain ⟨rfl, rfl⟩ := so_e hf
            exact rm_iret hx hb hr hlocks hK hB dX8_lasts_83
        · have hf := it_f hf c14
          refine lv_aload_n hx hb dX8_lasts_53 rfl (lv_at hl 1 rfl) ?_
          refine lv_iload hx hb dX8_lasts_54 (lv_at hl 0 rfl) ?_
          obtain ⟨r18, σ19, hkr18, hf⟩ := bd_e hf
          refine rm_calliV (av := [.int r12]) (rest := []) hx hb hml hown hts hl.1 hK hA hB (cm_no l D ad cy n σ13 r12 hkr18) (kw_no hts ⟨Nat.le_of_ble_eq_true rfl, Nat.le_of_ble_eq_true rfl⟩) rfl rfl (lv_room (Nat.le_of_ble_eq_true rfl)) dX8_lasts_56 (Nat.le_refl _) (Nat.le_refl _) (fun H locs hB => ?_)
          obtain ⟨rfl, rfl⟩ := so_e hf
          exact rm_iret hx hb hr hlocks hK hB dX8_lasts_59
      · have hf := it_t hf c11
        refine lv_aload_n hx hb dX8_lasts_31 rfl (lv_at hl 0 rfl) ?_
        refine lv_bipush (v := (-2)) hx hb dX8_lasts_32 (by decide) ?_
        obtain ⟨r20, σ21, hkr20, hf⟩ := bd_e hf
        refine rm_calliV (av := [.int (-2)]) (rest := []) hx hb hml hown hts hl.1 hK hA hB (cm_no l D ad cy n σ10 (-2) hkr20) (kw_no hts ⟨Nat.le_of_ble_eq_true rfl, Nat.le_of_ble_eq_true rfl⟩) rfl rfl (lv_room (Nat.le_of_ble_eq_true rfl)) dX8_lasts_34 (Nat.le_refl _) (Nat.le_refl _) (fun H locs hB => ?_)
        obtain ⟨rfl, rfl⟩ := so_e hf
        exact rm_iret hx hb hr hlocks hK hB dX8_lasts_37
    · have hf := it_t hf c8
      refine lv_aload_n hx hb dX8_lasts_15 rfl (lv_at hl 0 rfl) ?_
      refine lv_iconst (v := (-1)) hx hb dX8_lasts_16 (by decide) ?_
      obtain ⟨r22, σ23, hkr22, hf⟩ := bd_e hf
      refine rm_calliV (av := [.int (-1)]) (rest := []) hx hb hml hown hts hl.1 hK hA hB (cm_no l D ad cy n σ7 (-1) hkr22) (kw_no hts ⟨Nat.le_of_ble_eq_true rfl, Nat.le_of_ble_eq_true rfl⟩) rfl rfl (lv_room (Nat.le_of_ble_eq_true rfl)) dX8_lasts_17 (Nat.le_refl _) (Nat.le_refl _) (fun H locs hB => ?_)
      obtain ⟨rfl, rfl⟩ := so_e hf
      exact rm_iret hx hb hr hlocks hK hB dX8_lasts_20
theorem cm_lasts (l : Launch) (D : va_G) (ad : Nat → Nat) (cy : ClassId) (n : Nat) (σ : MS) (x1 : Int32) (x2 : Int32) (x3 : Int32) (x4 : Int32) {r0 : Int32} {σ0 : MS} (hf : fm_lasts n σ x1 x2 x3 x4 = some (r0, σ0)) : mMi l yX8_lasts wn_lasts rm_lasts D ad cy [.ref (ad 0), .int x1, .int x2, .int x3, .int x4] σ r0 σ0 :=
  rm_meti (ret := (some .int)) (by decide) rfl (Nat.le_of_ble_eq_true rfl) (fun p e s m below meth c A ls hc hK hA hB hl => tbm_lasts_0 hc hK hA n σ x1 x2 x3 x4 hB hl hf)
/-! ruler -/
abbrev rm_ruler : Room := { frames := 3, cells := 0, slots := 0, locals := 78 }
abbrev wn_ruler : List Cond := .code yX8_ruler cX8_ruler 5 (some .int) :: wsM
def bm_ruler_7 (n : Nat) (K7 : MS → Int32 → Int32 → Int32 → Option (Int32 × MS)) (σ : MS) (x1 : Int32) (x2 : Int32) (x3 : Int32) : Option (Int32 × MS) := if ((σ.1 0 21) ≤ x3) then (some (x1, σ)) else (ck (ib x3 9) (sq ((σ.1 10 (Int32.toNatClampNeg x3)) : Int32) (fun y3 => ck (ib x3 9) (sq ((σ.1 11 (Int32.toNatClampNeg x3)) : Int32) (fun y5 => ck (ib x3 9) (sq ((σ.1 12 (Int32.toNatClampNeg x3)) : Int32) (fun y7 => bd (fm_takeOf n σ x3 y3 y5 y7) (fun r8 σ9 => if (x2 < r8) then (sq (x3 + 1 : Int32) (fun y11 => K7 σ9 x3 r8 y11)) else (sq (x3 + 1 : Int32) (fun y12 => K7 σ9 x1 x2 y12))))))))))
set_option maxRecDepth 100000 in
set_option maxHeartbeats 4000000 in
theorem tbm_ruler_7 {p : Program} {l : Launch} {e : Env} {s : State} {m : MethodId} {args : Array Value} {below : List Frame} {meth : Method} {c : Code} {D : va_G} {A : Nat → Prop} {ad : Nat → Nat} {cy : ClassId} {r0 : Int32} {σ0 : MS} (hc : cxB RX8 wsM cX8_ruler 5 (some .int) p s m args meth c) (hK : va_K D vwCl [(cy, .int)] s) (hA : ∀ q, s.heap.size ≤ q → A q) (n : Nat) (K7 : MS → Int32 → Int32 → Int32 → Option (Int32 × MS)) (hK7 : ∀ (σ : MS) (x1 : Int32) (x2 : Int32) (x3 : Int32) (H : Heap) (locs : List Loc) (ls : Array Slot), mB D ad cy A s.heap σ H locs → lv_has ls 5 [(0, .ref (ad 0)), (1, .int x1), (2, .int x2), (3, .int x3)] → K7 σ x1 x2 x3 = some (r0, σ0) → W p l e rm_ruler s m args below meth c H locs 0 0 (MQ below (mQi D ad cy A r0 σ0) args s 0 0 A) (F0 m 7 ls [])) (σ : MS) (x1 : Int32) (x2 : Int32) (x3 : Int32) {H : Heap} {locs : List Loc} {ls : Array Slot} (hB : mB D ad cy A s.heap σ H locs) (hl : lv_has ls 5 [(0, .ref (ad 0)), (1, .int x1), (2, .int x2), (3, .int x3)]) (hf : bm_ruler_7 n K7 σ x1 x2 x3 = some (r0, σ0)) : W p l e rm_ruler s m args below meth c H locs 0 0 (MQ below (mQi D ad cy A r0 σ0) args s 0 0 A) (F0 m 7 ls []) := by
  obtain ⟨hx, hb, hml, hown, hts, hr, hlocks⟩ := id hc
  unfold bm_ruler_7 at hf
  refine lv_iload_n hx hb dX8_ruler_7 rfl (lv_at hl 3 rfl) ?_
  refine lv_aload_n hx hb dX8_ruler_8 rfl (lv_at hl 0 rfl) ?_
  refine rm_get hx hb hts inM hown hK hB 21 (Nat.le_of_ble_eq_true rfl) qf_155 rfl dX8_ruler_9 ?_
  refine lv_icmp_ge (tgt := 60) hx hb dX8_ruler_12 (by decide) (fun c1 => ?_) (fun c1 => ?_)
  · have hf := it_t hf c1
    refine lv_iload_n hx hb dX8_ruler_60 rfl (lv_at hl 1 rfl) ?_
    obtain ⟨rfl, rfl⟩ := so_e hf
    exact rm_iret hx hb hr hlocks hK hB dX8_ruler_61
  · have hf := it_f hf c1
    refine lv_aload_n hx hb dX8_ruler_15 rfl (lv_at hl 0 rfl) ?_
    refine lv_iload_n hx hb dX8_ruler_16 rfl (lv_at hl 3 rfl) ?_
    refine lv_aload_n hx hb dX8_ruler_17 rfl (lv_at hl 0 rfl) ?_
    refine rm_get hx hb hts inM hown hK hB 13 (Nat.le_of_ble_eq_true rfl) qf_41 rfl dX8_ruler_18 ?_
    refine lv_iload_n hx hb dX8_ruler_21 rfl (lv_at hl 3 rfl) ?_
    obtain ⟨k2, hf⟩ := ck_e hf
    refine rm_ald hx hb hK hB 10 rfl k2 dX8_ruler_22 ?_
    refine lv_topi (fun y3 ey3 => ?_)
    have hf := sq_e hf y3 ey3
    refine lv_aload_n hx hb dX8_ruler_23 rfl (lv_at hl 0 rfl) ?_
    refine rm_get hx hb hts inM hown hK hB 14 (Nat.le_of_ble_eq_true rfl) qf_44 rfl dX8_ruler_24 ?_
    refine lv_iload_n hx hb dX8_ruler_27 rfl (lv_at hl 3 rfl) ?_
    obtain ⟨k4, hf⟩ := ck_e hf
    refine rm_ald hx hb hK hB 11 rfl k4 dX8_ruler_28 ?_
    refine lv_topi (fun y5 ey5 => ?_)
    have hf := sq_e hf y5 ey5
    refine lv_aload_n hx hb dX8_ruler_29 rfl (lv_at hl 0 rfl) ?_
    refine rm_get hx hb hts inM hown hK hB 15 (Nat.le_of_ble_eq_true rfl) qf_47 rfl dX8_ruler_30 ?_
    refine lv_iload_n hx hb dX8_ruler_33 rfl (lv_at hl 3 rfl) ?_
    obtain ⟨k6, hf⟩ := ck_e hf
    refine rm_ald hx hb hK hB 12 rfl k6 dX8_ruler_34 ?_
    refine lv_topi (fun y7 ey7 => ?_)
    have hf := sq_e hf y7 ey7
    obtain ⟨r8, σ9, hkr8, hf⟩ := bd_e hf
    refine rm_calliV (av := [.int x3, .int y3, .int y5, .int y7]) (rest := []) hx hb hml hown hts hl.1 hK hA hB (cm_takeOf l D ad cy n σ x3 y3 y5 y7 hkr8) (kw_takeOf hts ⟨Nat.le_of_ble_eq_true rfl, Nat.le_of_ble_eq_true rfl⟩) rfl rfl (lv_room (Nat.le_of_ble_eq_true rfl)) dX8_ruler_35 (Nat.le_refl _) (Nat.le_refl _) (fun H locs hB => ?_)
    refine lv_istore (lv' := [(4, .int r8), (0, .ref (ad 0)), (1, .int x1), (2, .int x2), (3, .int x3)]) hx hb dX8_ruler_38 hl (by decide) rfl (fun ls hl => ?_)
    refine lv_iload hx hb dX8_ruler_40 (lv_at hl 0 rfl) ?_
    refine lv_iload_n hx hb dX8_ruler_42 rfl (lv_at hl 3 rfl) ?_
    refine lv_icmp_gt (tgt := 49) hx hb dX8_ruler_43 (by decide) (fun c10 => ?_) (fun c10 => ?_)
    · have hf := it_t hf c10
      refine lv_iload hx hb dX8_ruler_49 (lv_at hl 0 rfl) ?_
      refine lv_istore_n (lv' := [(2, .int r8), (4, .int r8), (0, .ref (ad 0)), (1, .int x1), (3, .int x3)]) hx hb dX8_ruler_51 rfl hl (by decide) rfl (fun ls hl => ?_)
      refine lv_iload_n hx hb dX8_ruler_52 rfl (lv_at hl 4 rfl) ?_
      refine lv_istore_n (lv' := [(1, .int x3), (2, .int r8), (4, .int r8), (0, .ref (ad 0)), (3, .int x3)]) hx hb dX8_ruler_53 rfl hl (by decide) rfl (fun ls hl => ?_)
      obtain ⟨y11, ey11⟩ : ∃ z : Int32, z = x3 + 1 := ⟨_, rfl⟩
      have hf := sq_e hf y11 ey11
      refine lv_iinc (v := y11) (lv' := [(3, .int y11), (1, .int x3), (2, .int r8), (4, .int r8), (0, .ref (ad 0))]) hx hb dX8_ruler_54 hl (k := 4) rfl (by rw [ey11]; rfl) (by decide) rfl (fun ls hl => ?_)
      refine lv_goto (tgt := 7) hx hb dX8_ruler_57 (by decide) ?_
      exact hK7 σ9 x3 r8 y11 _ _ _ hB (lv_sub hl [4, 1, 2, 0] rfl) hf
    · have hf := it_f hf c10
      refine lv_goto (tgt := 54) hx hb dX8_ruler_46 (by decide) ?_
      obtain ⟨y12, ey12⟩ : ∃ z : Int32, z = x3 + 1 := ⟨_, rfl⟩
      have hf := sq_e hf y12 ey12
      refine lv_iinc (v := y12) (lv' := [(3, .int y12), (4, .int r8), (0, .ref (ad 0)), (1, .int x1), (2, .int x2)]) hx hb dX8_ruler_54 hl (k := 4) rfl (by rw [ey12]; rfl) (by decide) rfl (fun ls hl => ?_)
      refine lv_goto (tgt := 7) hx hb dX8_ruler_57 (by decide) ?_
      exact hK7 σ9 x1 x2 y12 _ _ _ hB (lv_sub hl [2, 3, 4, 0] rfl) hf
def lm_ruler_7 (n : Nat) : Nat → MS → Int32 → Int32 → Int32 → Option (Int32 × MS)
  | 0 => fun _ _ _ _ => none
  | k + 1 => bm_ruler_7 n (lm_ruler_7 n k)
theorem tlm_ruler_7 {p : Program} {l : Launch} {e : Env} {s : State} {m : MethodId} {args : Array Value} {below : List Frame} {meth : Method} {c : Code} {D : va_G} {A : Nat → Prop} {ad : Nat → Nat} {cy : ClassId} {r0 : Int32} {σ0 : MS} (hc : cxB RX8 wsM cX8_ruler 5 (some .int) p s m args meth c) (hK : va_K D vwCl [(cy, .int)] s) (hA : ∀ q, s.heap.size ≤ q → A q) (n : Nat) : ∀ (k : Nat) (σ : MS) (x1 : Int32) (x2 : Int32) (x3 : Int32) (H : Heap) (locs : List Loc) (ls : Array Slot), mB D ad cy A s.heap σ H locs → lv_has ls 5 [(0, .ref (ad 0)), (1, .int x1), (2, .int x2), (3, .int x3)] → lm_ruler_7 n k σ x1 x2 x3 = some (r0, σ0) → W p l e rm_ruler s m args below meth c H locs 0 0 (MQ below (mQi D ad cy A r0 σ0) args s 0 0 A) (F0 m 7 ls []) := by
  intro k
  induction k with
  | zero =>
    intro σ x1 x2 x3 H locs ls hB hl hf
    have hf : (none : Option (Int32 × MS)) = some (r0, σ0) := hf
    cases hf
  | succ k ih =>
    intro σ x1 x2 x3 H locs ls hB hl hf
    exact tbm_ruler_7 hc hK hA n (lm_ruler_7 n k) ih σ x1 x2 x3 hB hl hf
def fm_ruler (n : Nat) (σ : MS) : Option (Int32 × MS) := sq ((-9) : Int32) (fun y1 => sq (0 : Int32) (fun y2 => sq (0 : Int32) (fun y3 => lm_ruler_7 n n σ y1 y2 y3)))
set_option maxRecDepth 100000 in
set_option maxHeartbeats 4000000 in
theorem tbm_ruler_0 {p : Program} {l : Launch} {e : Env} {s : State} {m : MethodId} {args : Array Value} {below : List Frame} {meth : Method} {c : Code} {D : va_G} {A : Nat → Prop} {ad : Nat → Nat} {cy : ClassId} {r0 : Int32} {σ0 : MS} (hc : cxB RX8 wsM cX8_ruler 5 (some .int) p s m args meth c) (hK : va_K D vwCl [(cy, .int)] s) (hA : ∀ q, s.heap.size ≤ q → A q) (n : Nat) (σ : MS) {H : Heap} {locs : List Loc} {ls : Array Slot} (hB : mB D ad cy A s.heap σ H locs) (hl : lv_has ls 5 [(0, .ref (ad 0))]) (hf : fm_ruler n σ = some (r0, σ0)) : W p l e rm_ruler s m args below meth c H locs 0 0 (MQ below (mQi D ad cy A r0 σ0) args s 0 0 A) (F0 m 0 ls []) := by
  obtain ⟨hx, hb, hml, hown, hts, hr, hlocks⟩ := id hc
  unfold fm_ruler at hf
  refine lv_bipush (v := (-9)) hx hb dX8_ruler_0 (by decide) ?_
  refine lv_topi (fun y1 ey1 => ?_)
  have hf := sq_e hf y1 ey1
  refine lv_istore_n (lv' := [(1, .int y1), (0, .ref (ad 0))]) hx hb dX8_ruler_2 rfl hl (by decide) rfl (fun ls hl => ?_)
  refine lv_iconst (v := 0) hx hb dX8_ruler_3 (by decide) ?_
  refine lv_topi (fun y2 ey2 => ?_)
  have hf := sq_e hf y2 ey2
  refine lv_istore_n (lv' := [(2, .int y2), (1, .int y1), (0, .ref (ad 0))]) hx hb dX8_ruler_4 rfl hl (by decide) rfl (fun ls hl => ?_)
  refine lv_iconst (v := 0) hx hb dX8_ruler_5 (by decide) ?_
  refine lv_topi (fun y3 ey3 => ?_)
  have hf := sq_e hf y3 ey3
  refine lv_istore_n (lv' := [(3, .int y3), (2, .int y2), (1, .int y1), (0, .ref (ad 0))]) hx hb dX8_ruler_6 rfl hl (by decide) rfl (fun ls hl => ?_)
  exact tlm_ruler_7 hc hK hA n n σ y1 y2 y3 _ _ _ hB (lv_sub hl [3, 2, 1, 0] rfl) hf
theorem cm_ruler (l : Launch) (D : va_G) (ad : Nat → Nat) (cy : ClassId) (n : Nat) (σ : MS) {r0 : Int32} {σ0 : MS} (hf : fm_ruler n σ = some (r0, σ0)) : mMi l yX8_ruler wn_ruler rm_ruler D ad cy [.ref (ad 0)] σ r0 σ0 :=
  rm_meti (ret := (some .int)) (by decide) rfl (Nat.le_of_ble_eq_true rfl) (fun p e s m below meth c A ls hc hK hA hB hl => tbm_ruler_0 hc hK hA n σ hB hl hf)
theorem kw_ruler {R : Room} {s : State} {args : Array Value} (hts : ∀ w ∈ wsM, w.before args s = true) (hR : rm_ruler.frames + 1 ≤ R.frames ∧ 8 + (5 + 11) + rm_ruler.locals ≤ R.locals) : CallW R s args RX8 RX8 278 yX8_ruler cX8_ruler 5 (some .int) wn_ruler rm_ruler 0 0 0 := cwV 0 hts (gM_v qw_183 qw_184 qw_185 qw_37 qw_178) rfl rfl rfl (by decide +kernel) hR
/-! beginsSpin -/
abbrev rm_beginsSpin : Room := { frames := 1, cells := 0, slots := 0, locals := 24 }
abbrev wn_beginsSpin : List Cond := .code yX8_beginsSpin cX8_beginsSpin 1 none :: wsM
def fm_beginsSpin (n : Nat) (σ : MS) : Option (Int32 × MS) := bd (fm_all n σ) (fun r1 σ2 => bd (fm_begins n σ2 (σ.1 0 39) (σ.1 0 44) (σ.1 0 41) r1) (fun _ σ4 => some (0, σ4)))
set_option maxRecDepth 100000 in
set_option maxHeartbeats 4000000 in
theorem tbm_beginsSpin_0 {p : Program} {l : Launch} {e : Env} {s : State} {m : MethodId} {args : Array Value} {below : List Frame} {meth : Method} {c : Code} {D : va_G} {A : Nat → Prop} {ad : Nat → Nat} {cy : ClassId} {r0 : Int32} {σ0 : MS} (hc : cxB RX8 wsM cX8_beginsSpin 1 none p s m args meth c) (hK : va_K D vwCl [(cy, .int)] s) (hA : ∀ q, s.heap.size ≤ q → A q) (n : Nat) (σ : MS) {H : Heap} {locs : List Loc} {ls : Array Slot} (hB : mB D ad cy A s.heap σ H locs) (hl : lv_has ls 1 [(0, .ref (ad 0))]) (hf : fm_beginsSpin n σ = some (r0, σ0)) : W p l e rm_beginsSpin s m args below meth c H locs 0 0 (MQ below (mQv D ad cy A σ0) args s 0 0 A) (F0 m 0 ls []) := by
  obtain ⟨hx, hb, hml, hown, hts, hr, hlocks⟩ := id hc
  unfold fm_beginsSpin at hf
  refine lv_aload_n hx hb dX8_beginsSpin_0 rfl (lv_at hl 0 rfl) ?_
  refine lv_aload_n hx hb dX8_beginsSpin_1 rfl (lv_at hl 0 rfl) ?_
  refine rm_get hx hb hts inM hown hK hB 39 (Nat.le_of_ble_eq_true rfl) qf_250 rfl dX8_beginsSpin_2 ?_
  refine lv_aload_n hx hb dX8_beginsSpin_5 rfl (lv_at hl 0 rfl) ?_
  refine rm_get hx hb hts inM hown hK hB 44 (Nat.le_of_ble_eq_true rfl) qf_259 rfl dX8_beginsSpin_6 ?_
  refine lv_aload_n hx hb dX8_beginsSpin_9 rfl (lv_at hl 0 rfl) ?_
  refine rm_get hx hb hts inM hown hK hB 41 (Nat.le_of_ble_eq_true rfl) qf_256 rfl dX8_beginsSpin_10 ?_
  refine lv_aload_n hx hb dX8_beginsSpin_13 rfl (lv_at hl 0 rfl) ?_
  obtain ⟨r1, σ2, hkr1, hf⟩ := bd_e hf
  refine rm_calliV (av := []) (rest := [.int (σ.1 0 41), .int (σ.1 0 44), .int (σ.1 0 39), .ref (ad 0)]) hx hb hml hown hts hl.1 hK hA hB (cm_all l D ad cy n σ hkr1) (kw_all hts ⟨Nat.le_of_ble_eq_true rfl, Nat.le_of_ble_eq_true rfl⟩) rfl rfl (lv_room (Nat.le_of_ble_eq_true rfl)) dX8_beginsSpin_14 (Nat.le_refl _) (Nat.le_refl _) (fun H locs hB => ?_)
  obtain ⟨r3, σ4, hkr3, hf⟩ := bd_e hf
  refine rm_callvV (av := [.int (σ.1 0 39), .int (σ.1 0 44), .int (σ.1 0 41), .int r1]) (rest := []) hx hb hml hown hts hl.1 hK hA hB (cm_begins l D ad cy n σ2 (σ.1 0 39) (σ.1 0 44) (σ.1 0 41) r1 hkr3) (kw_begins hts ⟨Nat.le_of_ble_eq_true rfl, Nat.le_of_ble_eq_true rfl⟩) rfl rfl (lv_room (Nat.le_of_ble_eq_true rfl)) dX8_beginsSpin_17 (Nat.le_refl _) (Nat.le_refl _) (fun H locs hB => ?_)
  obtain ⟨rfl, rfl⟩ := so_e hf
  exact rm_vret hx hb hr hlocks hK hB dX8_beginsSpin_20
theorem cm_beginsSpin (l : Launch) (D : va_G) (ad : Nat → Nat) (cy : ClassId) (n : Nat) (σ : MS) {r0 : Int32} {σ0 : MS} (hf : fm_beginsSpin n σ = some (r0, σ0)) : mMv l yX8_beginsSpin wn_beginsSpin rm_beginsSpin D ad cy [.ref (ad 0)] σ σ0 :=
  rm_metv (ret := none) (by decide) rfl (Nat.le_of_ble_eq_true rfl) (fun p e s m below meth c A ls hc hK hA hB hl => tbm_beginsSpin_0 hc hK hA n σ hB hl hf)
theorem kw_beginsSpin {R : Room} {s : State} {args : Array Value} (hts : ∀ w ∈ wsM, w.before args s = true) (hR : rm_beginsSpin.frames + 1 ≤ R.frames ∧ 8 + (1 + 11) + rm_beginsSpin.locals ≤ R.locals) : CallW R s args RX8 RX8 275 yX8_beginsSpin cX8_beginsSpin 1 none wn_beginsSpin rm_beginsSpin 0 0 0 := cwV 0 hts (gM_v qw_180 qw_181 qw_182 qw_37 qw_179) rfl rfl rfl (by decide +kernel) hR
/-! rules -/
abbrev rm_rules : Room := { frames := 5, cells := 0, slots := 0, locals := 125 }
abbrev wn_rules : List Cond := .code yX8_rules cX8_rules 4 (some .int) :: wsM
def bm_rules_39 (n : Nat) (K39 : MS → Int32 → Int32 → Option (Int32 × MS)) (σ : MS) (x1 : Int32) (x3 : Int32) : Option (Int32 × MS) := if (x1 ≤ x3) then (bd (fm_ruler n σ) (fun r2 σ3 => some (r2, σ3))) else (bd (fm_goes n σ 1) (fun r4 σ5 => if (r4 = 0) then (sq (x3 + 1 : Int32) (fun y7 => K39 σ5 x1 y7)) else (some ((-9), σ5))))
set_option maxRecDepth 100000 in
set_option maxHeartbeats 4000000 in
theorem tbm_rules_39 {p : Program} {l : Launch} {e : Env} {s : State} {m : MethodId} {args : Array Value} {below : List Frame} {meth : Method} {c : Code} {D : va_G} {A : Nat → Prop} {ad : Nat → Nat} {cy : ClassId} {r0 : Int32} {σ0 : MS} (hc : cxB RX8 wsM cX8_rules 4 (some .int) p s m args meth c) (hK : va_K D vwCl [(cy, .int)] s) (hA : ∀ q, s.heap.size ≤ q → A q) (n : Nat) (K39 : MS → Int32 → Int32 → Option (Int32 × MS)) (hK39 : ∀ (σ : MS) (x1 : Int32) (x3 : Int32) (H : Heap) (locs : List Loc) (ls : Array Slot), mB D ad cy A s.heap σ H locs → lv_has ls 4 [(0, .ref (ad 0)), (1, .int x1), (3, .int x3)] → K39 σ x1 x3 = some (r0, σ0) → W p l e rm_rules s m args below meth c H locs 0 0 (MQ below (mQi D ad cy A r0 σ0) args s 0 0 A) (F0 m 39 ls [])) (σ : MS) (x1 : Int32) (x3 : Int32) {H : Heap} {locs : List Loc} {ls : Array Slot} (hB : mB D ad cy A s.heap σ H locs) (hl : lv_has ls 4 [(0, .ref (ad 0)), (1, .int x1), (3, .int x3)]) (hf : bm_rules_39 n K39 σ x1 x3 = some (r0, σ0)) : W p l e rm_rules s m args below meth c H locs 0 0 (MQ below (mQi D ad cy A r0 σ0) args s 0 0 A) (F0 m 39 ls []) := by
  obtain ⟨hx, hb, hml, hown, hts, hr, hlocks⟩ := id hc
  unfold bm_rules_39 at hf
  refine lv_iload_n hx hb dX8_rules_39 rfl (lv_at hl 2 rfl) ?_
  refine lv_iload_n hx hb dX8_rules_40 rfl (lv_at hl 1 rfl) ?_
  refine lv_icmp_ge (tgt := 61) hx hb dX8_rules_41 (by decide) (fun c1 => ?_) (fun c1 => ?_)
  · have hf := it_t hf c1
    refine lv_aload_n hx hb dX8_rules_61 rfl (lv_at hl 0 rfl) ?_
    obtain ⟨r2, σ3, hkr2, hf⟩ := bd_e hf
    refine rm_calliV (av := []) (rest := []) hx hb hml hown hts hl.1 hK hA hB (cm_ruler l D ad cy n σ hkr2) (kw_ruler hts ⟨Nat.le_of_ble_eq_true rfl, Nat.le_of_ble_eq_true rfl⟩) rfl rfl (lv_room (Nat.le_of_ble_eq_true rfl)) dX8_rules_62 (Nat.le_refl _) (Nat.le_refl _) (fun H locs hB => ?_)
    obtain ⟨rfl, rfl⟩ := so_e hf
    exact rm_iret hx hb hr hlocks hK hB dX8_rules_65
  · have hf := it_f hf c1
    refine lv_aload_n hx hb dX8_rules_44 rfl (lv_at hl 0 rfl) ?_
    refine lv_iconst (v := 1) hx hb dX8_rules_45 (by decide) ?_
    obtain ⟨r4, σ5, hkr4, hf⟩ := bd_e hf
    refine rm_calliV (av := [.int 1]) (rest := []) hx hb hml hown hts hl.1 hK hA hB (cm_goes l D ad cy n σ 1 hkr4) (kw_goes hts ⟨Nat.le_of_ble_eq_true rfl, Nat.le_of_ble_eq_true rfl⟩) rfl rfl (lv_room (Nat.le_of_ble_eq_true rfl)) dX8_rules_46 (Nat.le_refl _) (Nat.le_refl _) (fun H locs hB => ?_)
    refine lv_if_eq (tgt := 55) hx hb dX8_rules_49 (by decide) (fun c6 => ?_) (fun c6 => ?_)
    · have hf := it_t hf c6
      obtain ⟨y7, ey7⟩ : ∃ z : Int32, z = x3 + 1 := ⟨_, rfl⟩
      have hf := sq_e hf y7 ey7
      refine lv_iinc (v := y7) (lv' := [(3, .int y7), (0, .ref (ad 0)), (1, .int x1)]) hx hb dX8_rules_55 hl (k := 2) rfl (by rw [ey7]; rfl) (by decide) rfl (fun ls hl => ?_)
      refine lv_goto (tgt := 39) hx hb dX8_rules_58 (by decide) ?_
      exact hK39 σ5 x1 y7 _ _ _ hB (lv_sub hl [1, 2, 0] rfl) hf
    · have hf := it_f hf c6
      refine lv_bipush (v := (-9)) hx hb dX8_rules_52 (by decide) ?_
      obtain ⟨rfl, rfl⟩ := so_e hf
      exact rm_iret hx hb hr hlocks hK hB dX8_rules_54
def lm_rules_39 (n : Nat) : Nat → MS → Int32 → Int32 → Option (Int32 × MS)
  | 0 => fun _ _ _ => none
  | k + 1 => bm_rules_39 n (lm_rules_39 n k)
theorem tlm_rules_39 {p : Program} {l : Launch} {e : Env} {s : State} {m : MethodId} {args : Array Value} {below : List Frame} {meth : Method} {c : Code} {D : va_G} {A : Nat → Prop} {ad : Nat → Nat} {cy : ClassId} {r0 : Int32} {σ0 : MS} (hc : cxB RX8 wsM cX8_rules 4 (some .int) p s m args meth c) (hK : va_K D vwCl [(cy, .int)] s) (hA : ∀ q, s.heap.size ≤ q → A q) (n : Nat) : ∀ (k : Nat) (σ : MS) (x1 : Int32) (x3 : Int32) (H : Heap) (locs : List Loc) (ls : Array Slot), mB D ad cy A s.heap σ H locs → lv_has ls 4 [(0, .ref (ad 0)), (1, .int x1), (3, .int x3)] → lm_rules_39 n k σ x1 x3 = some (r0, σ0) → W p l e rm_rules s m args below meth c H locs 0 0 (MQ below (mQi D ad cy A r0 σ0) args s 0 0 A) (F0 m 39 ls []) := by
  intro k
  induction k with
  | zero =>
    intro σ x1 x3 H locs ls hB hl hf
    have hf : (none : Option (Int32 × MS)) = some (r0, σ0) := hf
    cases hf
  | succ k ih =>
    intro σ x1 x3 H locs ls hB hl hf
    exact tbm_rules_39 hc hK hA n (lm_rules_39 n k) ih σ x1 x3 hB hl hf
def fm_rules (n : Nat) (σ : MS) (x1 : Int32) : Option (Int32 × MS) := if ((σ.1 0 38) = 0) then (bd (fm_no n σ (-3)) (fun r10 σ11 => some (r10, σ11))) else (bd (fm_bound n σ x1 0 9999) (fun r2 σ3 => if (r2 = 0) then (bd (fm_beginsSpin n σ3) (fun _ σ6 => sq (0 : Int32) (fun y7 => lm_rules_39 n n σ6 x1 y7))) else (bd (fm_no n σ3 r2) (fun r8 σ9 => some (r8, σ9)))))
set_option maxRecDepth 100000 in
set_option maxHeartbeats 4000000 in
theorem tbm_rules_0 {p : Program} {l : Launch} {e : Env} {s : State} {m : MethodId} {args : Array Value} {below : List Frame} {meth : Method} {c : Code} {D : va_G} {A : Nat → Prop} {ad : Nat → Nat} {cy : ClassId} {r0 : Int32} {σ0 : MS} (hc : cxB RX8 wsM cX8_rules 4 (some .int) p s m args meth c) (hK : va_K D vwCl [(cy, .int)] s) (hA : ∀ q, s.heap.size ≤ q → A q) (n : Nat) (σ : MS) (x1 : Int32) {H : Heap} {locs : List Loc} {ls : Array Slot} (hB : mB D ad cy A s.heap σ H locs) (hl : lv_has ls 4 [(0, .ref (ad 0)), (1, .int x1)]) (hf : fm_rules n σ x1 = some (r0, σ0)) : W p l e rm_rules s m args below meth c H locs 0 0 (MQ below (mQi D ad cy A r0 σ0) args s 0 0 A) (F0 m 0 ls []) := by
  obtain ⟨hx, hb, hml, hown, hts, hr, hlocks⟩ := id hc
  unfold fm_rules at hf
  refine lv_aload_n hx hb dX8_rules_0 rfl (lv_at hl 0 rfl) ?_
  refine rm_get hx hb hts inM hown hK hB 38 (Nat.le_of_ble_eq_true rfl) qf_253 rfl dX8_rules_1 ?_
  refine lv_if_ne (tgt := 14) hx hb dX8_rules_4 (by decide) (fun c1 => ?_) (fun c1 => ?_)
  · have hf := it_f hf c1
    refine lv_iload_n hx hb dX8_rules_14 rfl (lv_at hl 1 rfl) ?_
    refine lv_iconst (v := 0) hx hb dX8_rules_15 (by decide) ?_
    refine lv_sipush (v := 9999) hx hb dX8_rules_16 (by decide) ?_
    obtain ⟨r2, σ3, hkr2, hf⟩ := bd_e hf
    refine rm_calliS (av := [.int x1, .int 0, .int 9999]) (rest := []) hx hb hml hown hts hl.1 hK hA hB (cm_bound l D ad cy n σ x1 0 9999 hkr2) (kw_bound hts ⟨Nat.le_of_ble_eq_true rfl, Nat.le_of_ble_eq_true rfl⟩) rfl rfl (lv_room (Nat.le_of_ble_eq_true rfl)) dX8_rules_19 (Nat.le_refl _) (Nat.le_refl _) (fun H locs hB => ?_)
    refine lv_istore_n (lv' := [(2, .int r2), (0, .ref (ad 0)), (1, .int x1)]) hx hb dX8_rules_22 rfl hl (by decide) rfl (fun ls hl => ?_)
    refine lv_iload_n hx hb dX8_rules_23 rfl (lv_at hl 0 rfl) ?_
    refine lv_if_eq (tgt := 33) hx hb dX8_rules_24 (by decide) (fun c4 => ?_) (fun c4 => ?_)
    · have hf := it_t hf c4
      refine lv_aload_n hx hb dX8_rules_33 rfl (lv_at hl 1 rfl) ?_
      obtain ⟨r5, σ6, hkr5, hf⟩ := bd_e hf
      refine rm_callvV (av := []) (rest := []) hx hb hml hown hts hl.1 hK hA hB (cm_beginsSpin l D ad cy n σ3 hkr5) (kw_beginsSpin hts ⟨Nat.le_of_ble_eq_true rfl, Nat.le_of_ble_eq_true rfl⟩) rfl rfl (lv_room (Nat.le_of_ble_eq_true rfl)) dX8_rules_34 (Nat.le_refl _) (Nat.le_refl _) (fun H locs hB => ?_)
      refine lv_iconst (v := 0) hx hb dX8_rules_37 (by decide) ?_
      refine lv_topi (fun y7 ey7 => ?_)
      have hf := sq_e hf y7 ey7
      refine lv_istore_n (lv' := [(3, .int y7), (2, .int r2), (0, .ref (ad 0)), (1, .int x1)]) hx hb dX8_rules_38 rfl hl (by decide) rfl (fun ls hl => ?_)
      exact tlm_rules_39 hc hK hA n n σ6 x1 y7 _ _ _ hB (lv_sub hl [2, 3, 0] rfl) hf
    · have hf := it_f hf c4
      refine lv_aload_n hx hb dX8_rules_27 rfl (lv_at hl 1 rfl) ?_
      refine lv_iload_n hx hb dX8_rules_28 rfl (lv_at hl 0 rfl) ?_
      obtain ⟨r8, σ9, hkr8, hf⟩ := bd_e hf
      refine rm_calliV (av := [.int r2]) (rest := []) hx hb hml hown hts hl.1 hK hA hB (cm_no l D ad cy n σ3 r2 hkr8) (kw_no hts ⟨Nat.le_of_ble_eq_true rfl, Nat.le_of_ble_eq_true rfl⟩) rfl rfl (lv_room (Nat.le_of_ble_eq_true rfl)) dX8_rules_29 (Nat.le_refl _) (Nat.le_refl _) (fun H locs hB => ?_)
      obtain ⟨rfl, rfl⟩ := so_e hf
      exact rm_iret hx hb hr hlocks hK hB dX8_rules_32
  · have hf := it_t hf c1
    refine lv_aload_n hx hb dX8_rules_7 rfl (lv_at hl 0 rfl) ?_
    refine lv_bipush (v := (-3)) hx hb dX8_rules_8 (by decide) ?_
    obtain ⟨r10, σ11, hkr10, hf⟩ := bd_e hf
    refine rm_calliV (av := [.int (-3)]) (rest := []) hx hb hml hown hts hl.1 hK hA hB (cm_no l D ad cy n σ (-3) hkr10) (kw_no hts ⟨Nat.le_of_ble_eq_true rfl, Nat.le_of_ble_eq_true rfl⟩) rfl rfl (lv_room (Nat.le_of_ble_eq_true rfl)) dX8_rules_10 (Nat.le_refl _) (Nat.le_refl _) (fun H locs hB => ?_)
    obtain ⟨rfl, rfl⟩ := so_e hf
    exact rm_iret hx hb hr hlocks hK hB dX8_rules_13
theorem cm_rules (l : Launch) (D : va_G) (ad : Nat → Nat) (cy : ClassId) (n : Nat) (σ : MS) (x1 : Int32) {r0 : Int32} {σ0 : MS} (hf : fm_rules n σ x1 = some (r0, σ0)) : mMi l yX8_rules wn_rules rm_rules D ad cy [.ref (ad 0), .int x1] σ r0 σ0 :=
  rm_meti (ret := (some .int)) (by decide) rfl (Nat.le_of_ble_eq_true rfl) (fun p e s m below meth c A ls hc hK hA hB hl => tbm_rules_0 hc hK hA n σ x1 hB hl hf)
/-! passes -/
abbrev rm_passes : Room := { frames := 5, cells := 0, slots := 0, locals := 125 }
abbrev wn_passes : List Cond := .code yX8_passes cX8_passes 3 (some .int) :: wsM
def bm_passes_23 (n : Nat) (K23 : MS → Int32 → Option (Int32 × MS)) (σ : MS) (x1 : Int32) : Option (Int32 × MS) := bd (fm_goes n σ 1) (fun r1 σ2 => if (r1 = 0) then (bd (fm_ruler n σ2) (fun r4 σ5 => if (r4 < 0) then (K23 σ5 x1) else (if (r4 = x1) then (K23 σ5 x1) else (some ((σ5.1 0 29), σ5))))) else (some ((-9), σ2)))
set_option maxRecDepth 100000 in
set_option maxHeartbeats 4000000 in
theorem tbm_passes_23 {p : Program} {l : Launch} {e : Env} {s : State} {m : MethodId} {args : Array Value} {below : List Frame} {meth : Method} {c : Code} {D : va_G} {A : Nat → Prop} {ad : Nat → Nat} {cy : ClassId} {r0 : Int32} {σ0 : MS} (hc : cxB RX8 wsM cX8_passes 3 (some .int) p s m args meth c) (hK : va_K D vwCl [(cy, .int)] s) (hA : ∀ q, s.heap.size ≤ q → A q) (n : Nat) (K23 : MS → Int32 → Option (Int32 × MS)) (hK23 : ∀ (σ : MS) (x1 : Int32) (H : Heap) (locs : List Loc) (ls : Array Slot), mB D ad cy A s.heap σ H locs → lv_has ls 3 [(0, .ref (ad 0)), (1, .int x1)] → K23 σ x1 = some (r0, σ0) → W p l e rm_passes s m args below meth c H locs 0 0 (MQ below (mQi D ad cy A r0 σ0) args s 0 0 A) (F0 m 23 ls [])) (σ : MS) (x1 : Int32) {H : Heap} {locs : List Loc} {ls : Array Slot} (hB : mB D ad cy A s.heap σ H locs) (hl : lv_has ls 3 [(0, .ref (ad 0)), (1, .int x1)]) (hf : bm_passes_23 n K23 σ x1 = some (r0, σ0)) : W p l e rm_passes s m args below meth c H locs 0 0 (MQ below (mQi D ad cy A r0 σ0) args s 0 0 A) (F0 m 23 ls []) := by
  obtain ⟨hx, hb, hml, hown, hts, hr, hlocks⟩ := id hc
  unfold bm_passes_23 at hf
  refine lv_aload_n hx hb dX8_passes_23 rfl (lv_at hl 0 rfl) ?_
  refine lv_iconst (v := 1) hx hb dX8_passes_24 (by decide) ?_
  obtain ⟨r1, σ2, hkr1, hf⟩ := bd_e hf
  refine rm_calliV (av := [.int 1]) (rest := []) hx hb hml hown hts hl.1 hK hA hB (cm_goes l D ad cy n σ 1 hkr1) (kw_goes hts ⟨Nat.le_of_ble_eq_true rfl, Nat.le_of_ble_eq_true rfl⟩) rfl rfl (lv_room (Nat.le_of_ble_eq_true rfl)) dX8_passes_25 (Nat.le_refl _) (Nat.le_refl _) (fun H locs hB => ?_)
  refine lv_if_ne (tgt := 53) hx hb dX8_passes_28 (by decide) (fun c3 => ?_) (fun c3 => ?_)
  · have hf := it_f hf c3
    refine lv_bipush (v := (-9)) hx hb dX8_passes_53 (by decide) ?_
    obtain ⟨rfl, rfl⟩ := so_e hf
    exact rm_iret hx hb hr hlocks hK hB dX8_passes_55
  · have hf := it_t hf c3
    refine lv_aload_n hx hb dX8_passes_31 rfl (lv_at hl 0 rfl) ?_
    obtain ⟨r4, σ5, hkr4, hf⟩ := bd_e hf
    refine rm_calliV (av := []) (rest := []) hx hb hml hown hts hl.1 hK hA hB (cm_ruler l D ad cy n σ2 hkr4) (kw_ruler hts ⟨Nat.le_of_ble_eq_true rfl, Nat.le_of_ble_eq_true rfl⟩) rfl rfl (lv_room (Nat.le_of_ble_eq_true rfl)) dX8_passes_32 (Nat.le_refl _) (Nat.le_refl _) (fun H locs hB => ?_)
    refine lv_istore_n (lv' := [(2, .int r4), (0, .ref (ad 0)), (1, .int x1)]) hx hb dX8_passes_35 rfl hl (by decide) rfl (fun ls hl => ?_)
    refine lv_iload_n hx hb dX8_passes_36 rfl (lv_at hl 0 rfl) ?_
    refine lv_if_lt (tgt := 50) hx hb dX8_passes_37 (by decide) (fun c6 => ?_) (fun c6 => ?_)
    · have hf := it_t hf c6
      refine lv_goto (tgt := 23) hx hb dX8_passes_50 (by decide) ?_
      exact hK23 σ5 x1 _ _ _ hB (lv_sub hl [1, 2] rfl) hf
    · have hf := it_f hf c6
      refine lv_iload_n hx hb dX8_passes_40 rfl (lv_at hl 0 rfl) ?_
      refine lv_iload_n hx hb dX8_passes_41 rfl (lv_at hl 2 rfl) ?_
      refine lv_icmp_eq (tgt := 50) hx hb dX8_passes_42 (by decide) (fun c7 => ?_) (fun c7 => ?_)
      · have hf := it_t hf c7
        refine lv_goto (tgt := 23) hx hb dX8_passes_50 (by decide) ?_
        exact hK23 σ5 x1 _ _ _ hB (lv_sub hl [1, 2] rfl) hf
      · have hf := it_f hf c7
        refine lv_aload_n hx hb dX8_passes_45 rfl (lv_at hl 1 rfl) ?_
        refine rm_get hx hb hts inM hown hK hB 29 (Nat.le_of_ble_eq_true rfl) qf_203 rfl dX8_passes_46 ?_
        obtain ⟨rfl, rfl⟩ := so_e hf
        exact rm_iret hx hb hr hlocks hK hB dX8_passes_49
def lm_passes_23 (n : Nat) : Nat → MS → Int32 → Option (Int32 × MS)
  | 0 => fun _ _ => none
  | k + 1 => bm_passes_23 n (lm_passes_23 n k)
theorem tlm_passes_23 {p : Program} {l : Launch} {e : Env} {s : State} {m : MethodId} {args : Array Value} {below : List Frame} {meth : Method} {c : Code} {D : va_G} {A : Nat → Prop} {ad : Nat → Nat} {cy : ClassId} {r0 : Int32} {σ0 : MS} (hc : cxB RX8 wsM cX8_passes 3 (some .int) p s m args meth c) (hK : va_K D vwCl [(cy, .int)] s) (hA : ∀ q, s.heap.size ≤ q → A q) (n : Nat) : ∀ (k : Nat) (σ : MS) (x1 : Int32) (H : Heap) (locs : List Loc) (ls : Array Slot), mB D ad cy A s.heap σ H locs → lv_has ls 3 [(0, .ref (ad 0)), (1, .int x1)] → lm_passes_23 n k σ x1 = some (r0, σ0) → W p l e rm_passes s m args below meth c H locs 0 0 (MQ below (mQi D ad cy A r0 σ0) args s 0 0 A) (F0 m 23 ls []) := by
  intro k
  induction k with
  | zero =>
    intro σ x1 H locs ls hB hl hf
    have hf : (none : Option (Int32 × MS)) = some (r0, σ0) := hf
    cases hf
  | succ k ih =>
    intro σ x1 H locs ls hB hl hf
    exact tbm_passes_23 hc hK hA n (lm_passes_23 n k) ih σ x1 hB hl hf
def fm_passes (n : Nat) (σ : MS) : Option (Int32 × MS) := if ((σ.1 0 38) = 0) then (bd (fm_no n σ (-3)) (fun r6 σ7 => some (r6, σ7))) else (bd (fm_beginsSpin n σ) (fun _ σ3 => bd (fm_ruler n σ3) (fun r4 σ5 => lm_passes_23 n n σ5 r4)))
set_option maxRecDepth 100000 in
set_option maxHeartbeats 4000000 in
theorem tbm_passes_0 {p : Program} {l : Launch} {e : Env} {s : State} {m : MethodId} {args : Array Value} {below : List Frame} {meth : Method} {c : Code} {D : va_G} {A : Nat → Prop} {ad : Nat → Nat} {cy : ClassId} {r0 : Int32} {σ0 : MS} (hc : cxB RX8 wsM cX8_passes 3 (some .int) p s m args meth c) (hK : va_K D vwCl [(cy, .int)] s) (hA : ∀ q, s.heap.size ≤ q → A q) (n : Nat) (σ : MS) {H : Heap} {locs : List Loc} {ls : Array Slot} (hB : mB D ad cy A s.heap σ H locs) (hl : lv_has ls 3 [(0, .ref (ad 0))]) (hf : fm_passes n σ = some (r0, σ0)) : W p l e rm_passes s m args below meth c H locs 0 0 (MQ below (mQi D ad cy A r0 σ0) args s 0 0 A) (F0 m 0 ls []) := by
  obtain ⟨hx, hb, hml, hown, hts, hr, hlocks⟩ := id hc
  unfold fm_passes at hf
  refine lv_aload_n hx hb dX8_passes_0 rfl (lv_at hl 0 rfl) ?_
  refine rm_get hx hb hts inM hown hK hB 38 (Nat.le_of_ble_eq_true rfl) qf_253 rfl dX8_passes_1 ?_
  refine lv_if_ne (tgt := 14) hx hb dX8_passes_4 (by decide) (fun c1 => ?_) (fun c1 => ?_)
  · have hf := it_f hf c1
    refine lv_aload_n hx hb dX8_passes_14 rfl (lv_at hl 0 rfl) ?_
    obtain ⟨r2, σ3, hkr2, hf⟩ := bd_e hf
    refine rm_callvV (av := []) (rest := []) hx hb hml hown hts hl.1 hK hA hB (cm_beginsSpin l D ad cy n σ hkr2) (kw_beginsSpin hts ⟨Nat.le_of_ble_eq_true rfl, Nat.le_of_ble_eq_true rfl⟩) rfl rfl (lv_room (Nat.le_of_ble_eq_true rfl)) dX8_passes_15 (Nat.le_refl _) (Nat.le_refl _) (fun H locs hB => ?_)
    refine lv_aload_n hx hb dX8_passes_18 rfl (lv_at hl 0 rfl) ?_
    obtain ⟨r4, σ5, hkr4, hf⟩ := bd_e hf
    refine rm_calliV (av := []) (rest := []) hx hb hml hown hts hl.1 hK hA hB (cm_ruler l D ad cy n σ3 hkr4) (kw_ruler hts ⟨Nat.le_of_ble_eq_true rfl, Nat.le_of_ble_eq_true rfl⟩) rfl rfl (lv_room (Nat.le_of_ble_eq_true rfl)) dX8_passes_19 (Nat.le_refl _) (Nat.le_refl _) (fun H locs hB => ?_)
    refine lv_istore_n (lv' := [(1, .int r4), (0, .ref (ad 0))]) hx hb dX8_passes_22 rfl hl (by decide) rfl (fun ls hl => ?_)
    exact tlm_passes_23 hc hK hA n n σ5 r4 _ _ _ hB (lv_sub hl [1, 0] rfl) hf
  · have hf := it_t hf c1
    refine lv_aload_n hx hb dX8_passes_7 rfl (lv_at hl 0 rfl) ?_
    refine lv_bipush (v := (-3)) hx hb dX8_passes_8 (by decide) ?_
    obtain ⟨r6, σ7, hkr6, hf⟩ := bd_e hf
    refine rm_calliV (av := [.int (-3)]) (rest := []) hx hb hml hown hts hl.1 hK hA hB (cm_no l D ad cy n σ (-3) hkr6) (kw_no hts ⟨Nat.le_of_ble_eq_true rfl, Nat.le_of_ble_eq_true rfl⟩) rfl rfl (lv_room (Nat.le_of_ble_eq_true rfl)) dX8_passes_10 (Nat.le_refl _) (Nat.le_refl _) (fun H locs hB => ?_)
    obtain ⟨rfl, rfl⟩ := so_e hf
    exact rm_iret hx hb hr hlocks hK hB dX8_passes_13
theorem cm_passes (l : Launch) (D : va_G) (ad : Nat → Nat) (cy : ClassId) (n : Nat) (σ : MS) {r0 : Int32} {σ0 : MS} (hf : fm_passes n σ = some (r0, σ0)) : mMi l yX8_passes wn_passes rm_passes D ad cy [.ref (ad 0)] σ r0 σ0 :=
  rm_meti (ret := (some .int)) (by decide) rfl (Nat.le_of_ble_eq_true rfl) (fun p e s m below meth c A ls hc hK hA hB hl => tbm_passes_0 hc hK hA n σ hB hl hf)
/-! heard -/
abbrev rm_heard : Room := { frames := 1, cells := 0, slots := 0, locals := 22 }
abbrev wn_heard : List Cond := .code yX8_heard cX8_heard 3 (some .int) :: wsM
def bm_heard_25 (n : Nat) (σ : MS) (x1 : Int32) (x2 : Int32) : Option (Int32 × MS) := if (x2 = 0) then (ck (ib (σ.1 0 48) 24) (sq (mp σ 21 (Int32.toNatClampNeg (σ.1 0 48)) x1) (fun σ3 => sq (mp σ3 0 48 ((σ3.1 0 48) + 1)) (fun σ4 => some ((σ4.1 0 48), σ4))))) else (bd (fm_no n σ x2) (fun r5 σ6 => some (r5, σ6)))
set_option maxRecDepth 100000 in
set_option maxHeartbeats 4000000 in
theorem tbm_heard_25 {p : Program} {l : Launch} {e : Env} {s : State} {m : MethodId} {args : Array Value} {below : List Frame} {meth : Method} {c : Code} {D : va_G} {A : Nat → Prop} {ad : Nat → Nat} {cy : ClassId} {r0 : Int32} {σ0 : MS} (hc : cxB RX8 wsM cX8_heard 3 (some .int) p s m args meth c) (hK : va_K D vwCl [(cy, .int)] s) (hA : ∀ q, s.heap.size ≤ q → A q) (n : Nat) (σ : MS) (x1 : Int32) (x2 : Int32) {H : Heap} {locs : List Loc} {ls : Array Slot} (hB : mB D ad cy A s.heap σ H locs) (hl : lv_has ls 3 [(0, .ref (ad 0)), (1, .int x1), (2, .int x2)]) (hf : bm_heard_25 n σ x1 x2 = some (r0, σ0)) : W p l e rm_heard s m args below meth c H locs 0 0 (MQ below (mQi D ad cy A r0 σ0) args s 0 0 A) (F0 m 25 ls []) := by
  obtain ⟨hx, hb, hml, hown, hts, hr, hlocks⟩ := id hc
  unfold bm_heard_25 at hf
  refine lv_iload_n hx hb dX8_heard_25 rfl (lv_at hl 2 rfl) ?_
  refine lv_if_eq (tgt := 35) hx hb dX8_heard_26 (by decide) (fun c1 => ?_) (fun c1 => ?_)
  · have hf := it_t hf c1
    refine lv_aload_n hx hb dX8_heard_35 rfl (lv_at hl 0 rfl) ?_
    refine rm_get hx hb hts inM hown hK hB 47 (Nat.le_of_ble_eq_true rfl) qf_74 rfl dX8_heard_36 ?_
    refine lv_aload_n hx hb dX8_heard_39 rfl (lv_at hl 0 rfl) ?_
    refine rm_get hx hb hts inM hown hK hB 48 (Nat.le_of_ble_eq_true rfl) qf_282 rfl dX8_heard_40 ?_
    refine lv_iload_n hx hb dX8_heard_43 rfl (lv_at hl 1 rfl) ?_
    obtain ⟨k2, hf⟩ := ck_e hf
    refine rm_ast hx hb hK hB 21 rfl (msa_21 _ _ _) k2 dX8_heard_44 (fun σ3 eσ3 H locs hB => ?_)
    have hf := sq_e hf σ3 eσ3
    refine lv_aload_n hx hb dX8_heard_45 rfl (lv_at hl 0 rfl) ?_
    refine lv_dup hx hb dX8_heard_46 rfl ?_
    refine rm_get hx hb hts inM hown hK hB 48 (Nat.le_of_ble_eq_true rfl) qf_282 rfl dX8_heard_47 ?_
    refine lv_iconst (v := 1) hx hb dX8_heard_50 (by decide) ?_
    refine lv_iadd hx hb dX8_heard_51 ?_
    refine rm_puti hx hb hts inM hown hK hB 48 (Nat.le_of_ble_eq_true rfl) qf_282 (ms_48 _ _ _) rfl pd_48 rfl rfl dX8_heard_52 (fun σ4 eσ4 H locs hB => ?_)
    have hf := sq_e hf σ4 eσ4
    refine lv_aload_n hx hb dX8_heard_55 rfl (lv_at hl 0 rfl) ?_
    refine rm_get hx hb hts inM hown hK hB 48 (Nat.le_of_ble_eq_true rfl) qf_282 rfl dX8_heard_56 ?_
    obtain ⟨rfl, rfl⟩ := so_e hf
    exact rm_iret hx hb hr hlocks hK hB dX8_heard_59
  · have hf := it_f hf c1
    refine lv_aload_n hx hb dX8_heard_29 rfl (lv_at hl 0 rfl) ?_
    refine lv_iload_n hx hb dX8_heard_30 rfl (lv_at hl 2 rfl) ?_
    obtain ⟨r5, σ6, hkr5, hf⟩ := bd_e hf
    refine rm_calliV (av := [.int x2]) (rest := []) hx hb hml hown hts hl.1 hK hA hB (cm_no l D ad cy n σ x2 hkr5) (kw_no hts ⟨Nat.le_of_ble_eq_true rfl, Nat.le_of_ble_eq_true rfl⟩) rfl rfl (lv_room (Nat.le_of_ble_eq_true rfl)) dX8_heard_31 (Nat.le_refl _) (Nat.le_refl _) (fun H locs hB => ?_)
    obtain ⟨rfl, rfl⟩ := so_e hf
    exact rm_iret hx hb hr hlocks hK hB dX8_heard_34
def fm_heard (n : Nat) (σ : MS) (x1 : Int32) : Option (Int32 × MS) := bd (fm_bound n σ x1 (-1) 99999) (fun r1 σ2 => if (r1 = 0) then (if ((σ2.1 0 48) = 24) then (sq ((-6) : Int32) (fun y5 => bm_heard_25 n σ2 x1 y5)) else (bm_heard_25 n σ2 x1 r1)) else (bm_heard_25 n σ2 x1 r1))
set_option maxRecDepth 100000 in
set_option maxHeartbeats 4000000 in
theorem tbm_heard_0 {p : Program} {l : Launch} {e : Env} {s : State} {m : MethodId} {args : Array Value} {below : List Frame} {meth : Method} {c : Code} {D : va_G} {A : Nat → Prop} {ad : Nat → Nat} {cy : ClassId} {r0 : Int32} {σ0 : MS} (hc : cxB RX8 wsM cX8_heard 3 (some .int) p s m args meth c) (hK : va_K D vwCl [(cy, .int)] s) (hA : ∀ q, s.heap.size ≤ q → A q) (n : Nat) (σ : MS) (x1 : Int32) {H : Heap} {locs : List Loc} {ls : Array Slot} (hB : mB D ad cy A s.heap σ H locs) (hl : lv_has ls 3 [(0, .ref (ad 0)), (1, .int x1)]) (hf : fm_heard n σ x1 = some (r0, σ0)) : W p l e rm_heard s m args below meth c H locs 0 0 (MQ below (mQi D ad cy A r0 σ0) args s 0 0 A) (F0 m 0 ls []) := by
  obtain ⟨hx, hb, hml, hown, hts, hr, hlocks⟩ := id hc
  unfold fm_heard at hf
  refine lv_iload_n hx hb dX8_heard_0 rfl (lv_at hl 1 rfl) ?_
  refine lv_iconst (v := (-1)) hx hb dX8_heard_1 (by decide) ?_
  refine lv_ldcw (v := 99999) hx hb hown (hts _ qw_186) dX8_heard_2 ?_
  obtain ⟨r1, σ2, hkr1, hf⟩ := bd_e hf
  refine rm_calliS (av := [.int x1, .int (-1), .int 99999]) (rest := []) hx hb hml hown hts hl.1 hK hA hB (cm_bound l D ad cy n σ x1 (-1) 99999 hkr1) (kw_bound hts ⟨Nat.le_of_ble_eq_true rfl, Nat.le_of_ble_eq_true rfl⟩) rfl rfl (lv_room (Nat.le_of_ble_eq_true rfl)) dX8_heard_5 (Nat.le_refl _) (Nat.le_refl _) (fun H locs hB => ?_)
  refine lv_istore_n (lv' := [(2, .int r1), (0, .ref (ad 0)), (1, .int x1)]) hx hb dX8_heard_8 rfl hl (by decide) rfl (fun ls hl => ?_)
  refine lv_iload_n hx hb dX8_heard_9 rfl (lv_at hl 0 rfl) ?_
  refine lv_if_ne (tgt := 25) hx hb dX8_heard_10 (by decide) (fun c3 => ?_) (fun c3 => ?_)
  · have hf := it_f hf c3
    exact tbm_heard_25 hc hK hA n σ2 x1 r1 hB (lv_sub hl [1, 2, 0] rfl) hf
  · have hf := it_t hf c3
    refine lv_aload_n hx hb dX8_heard_13 rfl (lv_at hl 1 rfl) ?_
    refine rm_get hx hb hts inM hown hK hB 48 (Nat.le_of_ble_eq_true rfl) qf_282 rfl dX8_heard_14 ?_
    refine lv_bipush (v := 24) hx hb dX8_heard_17 (by decide) ?_
    refine lv_icmp_ne (tgt := 25) hx hb dX8_heard_19 (by decide) (fun c4 => ?_) (fun c4 => ?_)
    · have hf := it_f hf c4
      exact tbm_heard_25 hc hK hA n σ2 x1 r1 hB (lv_sub hl [1, 2, 0] rfl) hf
    · have hf := it_t hf c4
      refine lv_bipush (v := (-6)) hx hb dX8_heard_22 (by decide) ?_
      refine lv_topi (fun y5 ey5 => ?_)
      have hf := sq_e hf y5 ey5
      refine lv_istore_n (lv' := [(2, .int y5), (0, .ref (ad 0)), (1, .int x1)]) hx hb dX8_heard_24 rfl hl (by decide) rfl (fun ls hl => ?_)
      exact tbm_heard_25 hc hK hA n σ2 x1 y5 hB (lv_sub hl [1, 2, 0] rfl) hf
theorem cm_heard (l : Launch) (D : va_G) (ad : Nat → Nat) (cy : ClassId) (n : Nat) (σ : MS) (x1 : Int32) {r0 : Int32} {σ0 : MS} (hf : fm_heard n σ x1 = some (r0, σ0)) : mMi l yX8_heard wn_heard rm_heard D ad cy [.ref (ad 0), .int x1] σ r0 σ0 :=
  rm_meti (ret := (some .int)) (by decide) rfl (Nat.le_of_ble_eq_true rfl) (fun p e s m below meth c A ls hc hK hA hB hl => tbm_heard_0 hc hK hA n σ x1 hB hl hf)
