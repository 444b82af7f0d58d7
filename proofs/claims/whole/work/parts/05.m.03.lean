/-! fieldOf -/
abbrev rm_fieldOf : Room := { frames := 0, cells := 0, slots := 0, locals := 0 }
abbrev wn_fieldOf : List Cond := .code yX8_fieldOf cX8_fieldOf 6 (some .int) :: wsM
def fm_fieldOf (n : Nat) (σ : MS) (x1 : Int32) (x2 : Int32) (x3 : Int32) (x4 : Int32) (x5 : Int32) : Option (Int32 × MS) := if (x1 = 98) then (ck (ib x2 7) (sq ((σ.1 7 (Int32.toNatClampNeg x2)) : Int32) (fun y19 => some (y19, σ)))) else (if (x1 = 100) then (ck (ib x2 7) (sq ((σ.1 4 (Int32.toNatClampNeg x2)) : Int32) (fun y17 => some (y17, σ)))) else (if (x1 = 101) then (ck (ib x2 7) (sq ((σ.1 5 (Int32.toNatClampNeg x2)) : Int32) (fun y15 => some (y15, σ)))) else (if (x1 = 102) then (ck (ib x3 4) (sq ((σ.1 8 (Int32.toNatClampNeg x3)) : Int32) (fun y13 => some (y13, σ)))) else (if (x1 = 108) then (some (x4, σ)) else (if (x1 = 116) then (some (x5, σ)) else (if (x1 = 119) then (ck (ib x2 7) (sq ((σ.1 3 (Int32.toNatClampNeg x2)) : Int32) (fun y11 => some (y11, σ)))) else (ck (ib x3 4) (sq ((σ.1 9 (Int32.toNatClampNeg x3)) : Int32) (fun y2 => some (y2, σ))))))))))
set_option maxRecDepth 100000 in
set_option maxHeartbeats 4000000 in
theorem tbm_fieldOf_0 {p : Program} {l : Launch} {e : Env} {s : State} {m : MethodId} {args : Array Value} {below : List Frame} {meth : Method} {c : Code} {D : va_G} {A : Nat → Prop} {ad : Nat → Nat} {cy : ClassId} {r0 : Int32} {σ0 : MS} (hc : cxB RX8 wsM cX8_fieldOf 6 (some .int) p s m args meth c) (hK : va_K D vwCl [(cy, .int)] s) (hA : ∀ q, s.heap.size ≤ q → A q) (n : Nat) (σ : MS) (x1 : Int32) (x2 : Int32) (x3 : Int32) (x4 : Int32) (x5 : Int32) {H : Heap} {locs : List Loc} {ls : Array Slot} (hB : mB D ad cy A s.heap σ H locs) (hl : lv_has ls 6 [(0, .ref (ad 0)), (1, .int x1), (2, .int x2), (3, .int x3), (4, .int x4), (5, .int x5)]) (hf : fm_fieldOf n σ x1 x2 x3 x4 x5 = some (r0, σ0)) : W p l e rm_fieldOf s m args below meth c H locs 0 0 (MQ below (mQi D ad cy A r0 σ0) args s 0 0 A) (F0 m 0 ls []) := by
  obtain ⟨hx, hb, hml, hown, hts, hr, hlocks⟩ := id hc
  unfold fm_fieldOf at hf
  refine lv_iload_n hx hb dX8_fieldOf_0 rfl (lv_at hl 1 rfl) ?_
  by_cases c3 : x1 = 98
  · have hf := it_t hf c3
    refine lv_tableIn (tgt := 131) hx hb dX8_fieldOf_1 (by rw [c3]; decide) (by rw [c3]; decide) (by rw [c3]; rfl) (by decide) ?_
    refine lv_aload_n hx hb dX8_fieldOf_131 rfl (lv_at hl 0 rfl) ?_
    refine rm_get hx hb hts inM hown hK hB 6 (Nat.le_of_ble_eq_true rfl) qf_28 rfl dX8_fieldOf_132 ?_
    refine lv_iload_n hx hb dX8_fieldOf_135 rfl (lv_at hl 2 rfl) ?_
    obtain ⟨k18, hf⟩ := ck_e hf
    refine rm_ald hx hb hK hB 7 rfl k18 dX8_fieldOf_136 ?_
    refine lv_topi (fun y19 ey19 => ?_)
    have hf := sq_e hf y19 ey19
    obtain ⟨rfl, rfl⟩ := so_e hf
    exact rm_iret hx hb hr hlocks hK hB dX8_fieldOf_137
  · have hf := it_f hf c3
    by_cases c4 : x1 = 100
    · have hf := it_t hf c4
      refine lv_tableIn (tgt := 117) hx hb dX8_fieldOf_1 (by rw [c4]; decide) (by rw [c4]; decide) (by rw [c4]; rfl) (by decide) ?_
      refine lv_aload_n hx hb dX8_fieldOf_117 rfl (lv_at hl 0 rfl) ?_
      refine rm_get hx hb hts inM hown hK hB 3 (Nat.le_of_ble_eq_true rfl) qf_19 rfl dX8_fieldOf_118 ?_
      refine lv_iload_n hx hb dX8_fieldOf_121 rfl (lv_at hl 2 rfl) ?_
      obtain ⟨k16, hf⟩ := ck_e hf
      refine rm_ald hx hb hK hB 4 rfl k16 dX8_fieldOf_122 ?_
      refine lv_topi (fun y17 ey17 => ?_)
      have hf := sq_e hf y17 ey17
      obtain ⟨rfl, rfl⟩ := so_e hf
      exact rm_iret hx hb hr hlocks hK hB dX8_fieldOf_123
    · have hf := it_f hf c4
      by_cases c5 : x1 = 101
      · have hf := it_t hf c5
        refine lv_tableIn (tgt := 124) hx hb dX8_fieldOf_1 (by rw [c5]; decide) (by rw [c5]; decide) (by rw [c5]; rfl) (by decide) ?_
        refine lv_aload_n hx hb dX8_fieldOf_124 rfl (lv_at hl 0 rfl) ?_
        refine rm_get hx hb hts inM hown hK hB 4 (Nat.le_of_ble_eq_true rfl) qf_22 rfl dX8_fieldOf_125 ?_
        refine lv_iload_n hx hb dX8_fieldOf_128 rfl (lv_at hl 2 rfl) ?_
        obtain ⟨k14, hf⟩ := ck_e hf
        refine rm_ald hx hb hK hB 5 rfl k14 dX8_fieldOf_129 ?_
        refine lv_topi (fun y15 ey15 => ?_)
        have hf := sq_e hf y15 ey15
        obtain ⟨rfl, rfl⟩ := so_e hf
        exact rm_iret hx hb hr hlocks hK hB dX8_fieldOf_130
      · have hf := it_f hf c5
        by_cases c6 : x1 = 102
        · have hf := it_t hf c6
          refine lv_tableIn (tgt := 138) hx hb dX8_fieldOf_1 (by rw [c6]; decide) (by rw [c6]; decide) (by rw [c6]; rfl) (by decide) ?_
          refine lv_aload_n hx hb dX8_fieldOf_138 rfl (lv_at hl 0 rfl) ?_
          refine rm_get hx hb hts inM hown hK hB 7 (Nat.le_of_ble_eq_true rfl) qf_31 rfl dX8_fieldOf_139 ?_
          refine lv_iload_n hx hb dX8_fieldOf_142 rfl (lv_at hl 3 rfl) ?_
          obtain ⟨k12, hf⟩ := ck_e hf
          refine rm_ald hx hb hK hB 8 rfl k12 dX8_fieldOf_143 ?_
          refine lv_topi (fun y13 ey13 => ?_)
          have hf := sq_e hf y13 ey13
          obtain ⟨rfl, rfl⟩ := so_e hf
          exact rm_iret hx hb hr hlocks hK hB dX8_fieldOf_144
        · have hf := it_f hf c6
          by_cases c7 : x1 = 108
          · have hf := it_t hf c7
            refine lv_tableIn (tgt := 104) hx hb dX8_fieldOf_1 (by rw [c7]; decide) (by rw [c7]; decide) (by rw [c7]; rfl) (by decide) ?_
            refine lv_iload hx hb dX8_fieldOf_104 (lv_at hl 4 rfl) ?_
            obtain ⟨rfl, rfl⟩ := so_e hf
            exact rm_iret hx hb hr hlocks hK hB dX8_fieldOf_106
          · have hf := it_f hf c7
            by_cases c8 : x1 = 116
            · have hf := it_t hf c8
              refine lv_tableIn (tgt := 107) hx hb dX8_fieldOf_1 (by rw [c8]; decide) (by rw [c8]; decide) (by rw [c8]; rfl) (by decide) ?_
              refine lv_iload hx hb dX8_fieldOf_107 (lv_at hl 5 rfl) ?_
              obtain ⟨rfl, rfl⟩ := so_e hf
              exact rm_iret hx hb hr hlocks hK hB dX8_fieldOf_109
            · have hf := it_f hf c8
              by_cases c9 : x1 = 119
              · have hf := it_t hf c9
                refine lv_tableIn (tgt := 110) hx hb dX8_fieldOf_1 (by rw [c9]; decide) (by rw [c9]; decide) (by rw [c9]; rfl) (by decide) ?_
                refine lv_aload_n hx hb dX8_fieldOf_110 rfl (lv_at hl 0 rfl) ?_
                refine rm_get hx hb hts inM hown hK hB 2 (Nat.le_of_ble_eq_true rfl) qf_16 rfl dX8_fieldOf_111 ?_
                refine lv_iload_n hx hb dX8_fieldOf_114 rfl (lv_at hl 2 rfl) ?_
                obtain ⟨k10, hf⟩ := ck_e hf
                refine rm_ald hx hb hK hB 3 rfl k10 dX8_fieldOf_115 ?_
                refine lv_topi (fun y11 ey11 => ?_)
                have hf := sq_e hf y11 ey11
                obtain ⟨rfl, rfl⟩ := so_e hf
                exact rm_iret hx hb hr hlocks hK hB dX8_fieldOf_116
              · have hf := it_f hf c9
                refine sw_d (tgt := 145) hx hb dX8_fieldOf_1 (by have n_98 := lv_neT c3 (a := 98) (by decide); have n_100 := lv_neT c4 (a := 100) (by decide); have n_101 := lv_neT c5 (a := 101) (by decide); have n_102 := lv_neT c6 (a := 102) (by decide); have n_108 := lv_neT c7 (a := 108) (by decide); have n_116 := lv_neT c8 (a := 116) (by decide); have n_119 := lv_neT c9 (a := 119) (by decide); rcases (show (x1).toInt < 98 ∨ 119 < (x1).toInt ∨ (x1).toInt = 99 ∨ (x1).toInt = 103 ∨ (x1).toInt = 104 ∨ (x1).toInt = 105 ∨ (x1).toInt = 106 ∨ (x1).toInt = 107 ∨ (x1).toInt = 109 ∨ (x1).toInt = 110 ∨ (x1).toInt = 111 ∨ (x1).toInt = 112 ∨ (x1).toInt = 113 ∨ (x1).toInt = 114 ∨ (x1).toInt = 115 ∨ (x1).toInt = 117 ∨ (x1).toInt = 118 by omega) with q | q | q | q | q | q | q | q | q | q | q | q | q | q | q | q | q; exact Or.inl q; exact Or.inr (Or.inl q); exact Or.inr (Or.inr (by rw [q]; rfl)); exact Or.inr (Or.inr (by rw [q]; rfl)); exact Or.inr (Or.inr (by rw [q]; rfl)); exact Or.inr (Or.inr (by rw [q]; rfl)); exact Or.inr (Or.inr (by rw [q]; rfl)); exact Or.inr (Or.inr (by rw [q]; rfl)); exact Or.inr (Or.inr (by rw [q]; rfl)); exact Or.inr (Or.inr (by rw [q]; rfl)); exact Or.inr (Or.inr (by rw [q]; rfl)); exact Or.inr (Or.inr (by rw [q]; rfl)); exact Or.inr (Or.inr (by rw [q]; rfl)); exact Or.inr (Or.inr (by rw [q]; rfl)); exact Or.inr (Or.inr (by rw [q]; rfl)); exact Or.inr (Or.inr (by rw [q]; rfl)); exact Or.inr (Or.inr (by rw [q]; rfl))) (by decide) ?_
                refine lv_aload_n hx hb dX8_fieldOf_145 rfl (lv_at hl 0 rfl) ?_
                refine rm_get hx hb hts inM hown hK hB 8 (Nat.le_of_ble_eq_true rfl) qf_34 rfl dX8_fieldOf_146 ?_
                refine lv_iload_n hx hb dX8_fieldOf_149 rfl (lv_at hl 3 rfl) ?_
                obtain ⟨k1, hf⟩ := ck_e hf
                refine rm_ald hx hb hK hB 9 rfl k1 dX8_fieldOf_150 ?_
                refine lv_topi (fun y2 ey2 => ?_)
                have hf := sq_e hf y2 ey2
                obtain ⟨rfl, rfl⟩ := so_e hf
                exact rm_iret hx hb hr hlocks hK hB dX8_fieldOf_151
theorem cm_fieldOf (l : Launch) (D : va_G) (ad : Nat → Nat) (cy : ClassId) (n : Nat) (σ : MS) (x1 : Int32) (x2 : Int32) (x3 : Int32) (x4 : Int32) (x5 : Int32) {r0 : Int32} {σ0 : MS} (hf : fm_fieldOf n σ x1 x2 x3 x4 x5 = some (r0, σ0)) : mMi l yX8_fieldOf wn_fieldOf rm_fieldOf D ad cy [.ref (ad 0), .int x1, .int x2, .int x3, .int x4, .int x5] σ r0 σ0 :=
  rm_meti (ret := (some .int)) (by decide) rfl (Nat.le_of_ble_eq_true rfl) (fun p e s m below meth c A ls hc hK hA hB hl => tbm_fieldOf_0 hc hK hA n σ x1 x2 x3 x4 x5 hB hl hf)
theorem kw_fieldOf {R : Room} {s : State} {args : Array Value} (hts : ∀ w ∈ wsM, w.before args s = true) (hR : rm_fieldOf.frames + 1 ≤ R.frames ∧ 8 + (6 + 11) + rm_fieldOf.locals ≤ R.locals) : CallW R s args RX8 RX8 177 yX8_fieldOf cX8_fieldOf 6 (some .int) wn_fieldOf rm_fieldOf 0 0 5 := cwV 5 hts (gM_v qw_116 qw_117 qw_118 qw_37 qw_113) rfl rfl rfl (by decide +kernel) hR
/-! two -/
abbrev rm_two : Room := { frames := 0, cells := 0, slots := 0, locals := 0 }
abbrev wn_two : List Cond := .code yX8_two cX8_two 3 (some .int) :: wsM
def fm_two (n : Nat) (σ : MS) (x0 : Int32) (x1 : Int32) (x2 : Int32) : Option (Int32 × MS) := if (x0 = 43) then (some ((x1 + x2), σ)) else (if (x0 = 45) then (some ((x1 - x2), σ)) else (if (x0 = 42) then (some ((x1 * x2), σ)) else (if (x2 = 0) then (some (0, σ)) else (ck (decide (¬ (x2 = 0))) (some ((x1 / x2), σ))))))
set_option maxRecDepth 100000 in
set_option maxHeartbeats 4000000 in
theorem tbm_two_0 {p : Program} {l : Launch} {e : Env} {s : State} {m : MethodId} {args : Array Value} {below : List Frame} {meth : Method} {c : Code} {D : va_G} {A : Nat → Prop} {ad : Nat → Nat} {cy : ClassId} {r0 : Int32} {σ0 : MS} (hc : cxB RX8 wsM cX8_two 3 (some .int) p s m args meth c) (hK : va_K D vwCl [(cy, .int)] s) (hA : ∀ q, s.heap.size ≤ q → A q) (n : Nat) (σ : MS) (x0 : Int32) (x1 : Int32) (x2 : Int32) {H : Heap} {locs : List Loc} {ls : Array Slot} (hB : mB D ad cy A s.heap σ H locs) (hl : lv_has ls 3 [(0, .int x0), (1, .int x1), (2, .int x2)]) (hf : fm_two n σ x0 x1 x2 = some (r0, σ0)) : W p l e rm_two s m args below meth c H locs 0 0 (MQ below (mQi D ad cy A r0 σ0) args s 0 0 A) (F0 m 0 ls []) := by
  obtain ⟨hx, hb, hml, hown, hts, hr, hlocks⟩ := id hc
  unfold fm_two at hf
  refine lv_iload_n hx hb dX8_two_0 rfl (lv_at hl 0 rfl) ?_
  refine lv_bipush (v := 43) hx hb dX8_two_1 (by decide) ?_
  refine lv_icmp_ne (tgt := 12) hx hb dX8_two_3 (by decide) (fun c1 => ?_) (fun c1 => ?_)
  · have hf := it_f hf c1
    refine lv_iload_n hx hb dX8_two_12 rfl (lv_at hl 0 rfl) ?_
    refine lv_bipush (v := 45) hx hb dX8_two_13 (by decide) ?_
    refine lv_icmp_ne (tgt := 24) hx hb dX8_two_15 (by decide) (fun c2 => ?_) (fun c2 => ?_)
    · have hf := it_f hf c2
      refine lv_iload_n hx hb dX8_two_24 rfl (lv_at hl 0 rfl) ?_
      refine lv_bipush (v := 42) hx hb dX8_two_25 (by decide) ?_
      refine lv_icmp_ne (tgt := 36) hx hb dX8_two_27 (by decide) (fun c3 => ?_) (fun c3 => ?_)
      · have hf := it_f hf c3
        refine lv_iload_n hx hb dX8_two_36 rfl (lv_at hl 2 rfl) ?_
        refine lv_if_ne (tgt := 44) hx hb dX8_two_37 (by decide) (fun c4 => ?_) (fun c4 => ?_)
        · have hf := it_f hf c4
          refine lv_iload_n hx hb dX8_two_44 rfl (lv_at hl 1 rfl) ?_
          refine lv_iload_n hx hb dX8_two_45 rfl (lv_at hl 2 rfl) ?_
          obtain ⟨k5, hf⟩ := ck_e hf
          refine lv_idiv hx hb dX8_two_46 (of_decide_eq_true k5) ?_
          obtain ⟨rfl, rfl⟩ := so_e hf
          exact rm_iret hx hb hr hlocks hK hB dX8_two_47
        · have hf := it_t hf c4
          refine lv_iconst (v := 0) hx hb dX8_two_40 (by decide) ?_
          refine lv_goto (tgt := 47) hx hb dX8_two_41 (by decide) ?_
          obtain ⟨rfl, rfl⟩ := so_e hf
          exact rm_iret hx hb hr hlocks hK hB dX8_two_47
      · have hf := it_t hf c3
        refine lv_iload_n hx hb dX8_two_30 rfl (lv_at hl 1 rfl) ?_
        refine lv_iload_n hx hb dX8_two_31 rfl (lv_at hl 2 rfl) ?_
        refine lv_imul hx hb dX8_two_32 ?_
        refine lv_goto (tgt := 47) hx hb dX8_two_33 (by decide) ?_
        obtain ⟨rfl, rfl⟩ := so_e hf
        exact rm_iret hx hb hr hlocks hK hB dX8_two_47
    · have hf := it_t hf c2
      refine lv_iload_n hx hb dX8_two_18 rfl (lv_at hl 1 rfl) ?_
      refine lv_iload_n hx hb dX8_two_19 rfl (lv_at hl 2 rfl) ?_
      refine lv_isub hx hb dX8_two_20 ?_
      refine lv_goto (tgt := 47) hx hb dX8_two_21 (by decide) ?_
      obtain ⟨rfl, rfl⟩ := so_e hf
      exact rm_iret hx hb hr hlocks hK hB dX8_two_47
  · have hf := it_t hf c1
    refine lv_iload_n hx hb dX8_two_6 rfl (lv_at hl 1 rfl) ?_
    refine lv_iload_n hx hb dX8_two_7 rfl (lv_at hl 2 rfl) ?_
    refine lv_iadd hx hb dX8_two_8 ?_
    refine lv_goto (tgt := 47) hx hb dX8_two_9 (by decide) ?_
    obtain ⟨rfl, rfl⟩ := so_e hf
    exact rm_iret hx hb hr hlocks hK hB dX8_two_47
theorem cm_two (l : Launch) (D : va_G) (ad : Nat → Nat) (cy : ClassId) (n : Nat) (σ : MS) (x0 : Int32) (x1 : Int32) (x2 : Int32) {r0 : Int32} {σ0 : MS} (hf : fm_two n σ x0 x1 x2 = some (r0, σ0)) : mMi l yX8_two wn_two rm_two D ad cy [.int x0, .int x1, .int x2] σ r0 σ0 :=
  rm_meti (ret := (some .int)) (by decide) rfl (Nat.le_of_ble_eq_true rfl) (fun p e s m below meth c A ls hc hK hA hB hl => tbm_two_0 hc hK hA n σ x0 x1 x2 hB hl hf)
theorem kw_two {R : Room} {s : State} {args : Array Value} (hts : ∀ w ∈ wsM, w.before args s = true) (hR : rm_two.frames + 1 ≤ R.frames ∧ 8 + (3 + 11) + rm_two.locals ≤ R.locals) : CallB R s args RX8 181 yX8_two cX8_two 3 (some .int) wn_two rm_two 0 0 3 ∧ (Cond.static yX8_two).before args s = true := va_cwS 3 hts (gM_s qw_119 qw_120 qw_37 qw_114) rfl rfl rfl (by decide +kernel) hR
/-! lawOf -/
abbrev rm_lawOf : Room := { frames := 1, cells := 0, slots := 0, locals := 25 }
abbrev wn_lawOf : List Cond := .code yX8_lawOf cX8_lawOf 9 (some .int) :: wsM
def bm_lawOf_11 (n : Nat) (K11 : MS → Int32 → Int32 → Int32 → Int32 → Int32 → Int32 → Int32 → Option (Int32 × MS)) (σ : MS) (x1 : Int32) (x2 : Int32) (x3 : Int32) (x4 : Int32) (x5 : Int32) (x6 : Int32) (x7 : Int32) : Option (Int32 × MS) := ck (ib (x1 + 1) 10) (sq ((σ.1 15 (Int32.toNatClampNeg (x1 + 1))) : Int32) (fun y2 => if (y2 ≤ x7) then (sq ((σ.1 17 (Int32.toNatClampNeg 0)) : Int32) (fun y4 => if (0 ≤ y4) then (sq ((σ.1 17 (Int32.toNatClampNeg 0)) : Int32) (fun y6 => if (y6 ≤ 9999) then (sq ((σ.1 17 (Int32.toNatClampNeg 0)) : Int32) (fun y8 => some (y8, σ))) else (some (9999, σ)))) else (some (0, σ)))) else (ck (ib x7 300) (sq ((σ.1 14 (Int32.toNatClampNeg x7)) : Int32) (fun y10 => if (y10 < 1000) then (bd (fm_isField n σ y10) (fun r12 σ13 => if (r12 = 0) then (sq (x6 + (-1) : Int32) (fun y15 => ck (ib (y15 - 1) 24) (sq ((σ13.1 17 (Int32.toNatClampNeg (y15 - 1))) : Int32) (fun y17 => ck (ib y15 24) (sq ((σ13.1 17 (Int32.toNatClampNeg y15)) : Int32) (fun y19 => bd (fm_two n σ13 y10 y17 y19) (fun r20 σ21 => ck (ib (y15 - 1) 24) (sq (mp σ21 17 (Int32.toNatClampNeg (y15 - 1)) r20) (fun σ23 => sq (x7 + 1 : Int32) (fun y24 => K11 σ23 x1 x2 x3 x4 x5 y15 y24)))))))))) else (bd (fm_fieldOf n σ13 y10 x2 x3 x4 x5) (fun r25 σ26 => ck (ib x6 24) (sq (mp σ26 17 (Int32.toNatClampNeg x6) r25) (fun σ28 => sq (x6 + 1 : Int32) (fun y29 => sq (x7 + 1 : Int32) (fun y30 => K11 σ28 x1 x2 x3 x4 x5 y29 y30)))))))) else (ck (ib x6 24) (sq (mp σ 17 (Int32.toNatClampNeg x6) (y10 - 1000)) (fun σ32 => sq (x6 + 1 : Int32) (fun y33 => sq (x7 + 1 : Int32) (fun y34 => K11 σ32 x1 x2 x3 x4 x5 y33 y34))))))))))
set_option maxRecDepth 100000 in
set_option maxHeartbeats 4000000 in
theorem tbm_lawOf_11 {p : Program} {l : Launch} {e : Env} {s : State} {m : MethodId} {args : Array Value} {below : List Frame} {meth : Method} {c : Code} {D : va_G} {A : Nat → Prop} {ad : Nat → Nat} {cy : ClassId} {r0 : Int32} {σ0 : MS} (hc : cxB RX8 wsM cX8_lawOf 9 (some .int) p s m args meth c) (hK : va_K D vwCl [(cy, .int)] s) (hA : ∀ q, s.heap.size ≤ q → A q) (n : Nat) (K11 : MS → Int32 → Int32 → Int32 → Int32 → Int32 → Int32 → Int32 → Option (Int32 × MS)) (hK11 : ∀ (σ : MS) (x1 : Int32) (x2 : Int32) (x3 : Int32) (x4 : Int32) (x5 : Int32) (x6 : Int32) (x7 : Int32) (H : Heap) (locs : List Loc) (ls : Array Slot), mB D ad cy A s.heap σ H locs → lv_has ls 9 [(0, .ref (ad 0)), (1, .int x1), (2, .int x2), (3, .int x3), (4, .int x4), (5, .int x5), (6, .int x6), (7, .int x7)] → K11 σ x1 x2 x3 x4 x5 x6 x7 = some (r0, σ0) → W p l e rm_lawOf s m args below meth c H locs 0 0 (MQ below (mQi D ad cy A r0 σ0) args s 0 0 A) (F0 m 11 ls [])) (σ : MS) (x1 : Int32) (x2 : Int32) (x3 : Int32) (x4 : Int32) (x5 : Int32) (x6 : Int32) (x7 : Int32) {H : Heap} {locs : List Loc} {ls : Array Slot} (hB : mB D ad cy A s.heap σ H locs) (hl : lv_has ls 9 [(0, .ref (ad 0)), (1, .int x1), (2, .int x2), (3, .int x3), (4, .int x4), (5, .int x5), (6, .int x6), (7, .int x7)]) (hf : bm_lawOf_11 n K11 σ x1 x2 x3 x4 x5 x6 x7 = some (r0, σ0)) : W p l e rm_lawOf s m args below meth c H locs 0 0 (MQ below (mQi D ad cy A r0 σ0) args s 0 0 A) (F0 m 11 ls []) := by
  obtain ⟨hx, hb, hml, hown, hts, hr, hlocks⟩ := id hc
  unfold bm_lawOf_11 at hf
  refine lv_iload hx hb dX8_lawOf_11 (lv_at hl 7 rfl) ?_
  refine lv_aload_n hx hb dX8_lawOf_13 rfl (lv_at hl 0 rfl) ?_
  refine rm_get hx hb hts inM hown hK hB 18 (Nat.le_of_ble_eq_true rfl) qf_56 rfl dX8_lawOf_14 ?_
  refine lv_iload_n hx hb dX8_lawOf_17 rfl (lv_at hl 1 rfl) ?_
  refine lv_iconst (v := 1) hx hb dX8_lawOf_18 (by decide) ?_
  refine lv_iadd hx hb dX8_lawOf_19 ?_
  obtain ⟨k1, hf⟩ := ck_e hf
  refine rm_ald hx hb hK hB 15 rfl k1 dX8_lawOf_20 ?_
  refine lv_topi (fun y2 ey2 => ?_)
  have hf := sq_e hf y2 ey2
  refine lv_icmp_ge (tgt := 132) hx hb dX8_lawOf_21 (by decide) (fun c3 => ?_) (fun c3 => ?_)
  · have hf := it_t hf c3
    refine lv_aload_n hx hb dX8_lawOf_132 rfl (lv_at hl 0 rfl) ?_
    refine rm_get hx hb hts inM hown hK hB 20 (Nat.le_of_ble_eq_true rfl) qf_62 rfl dX8_lawOf_133 ?_
    refine lv_iconst (v := 0) hx hb dX8_lawOf_136 (by decide) ?_
    refine rm_ald hx hb hK hB 17 rfl (by decide) dX8_lawOf_137 ?_
    refine lv_topi (fun y4 ey4 => ?_)
    have hf := sq_e hf y4 ey4
    refine lv_if_ge (tgt := 145) hx hb dX8_lawOf_138 (by decide) (fun c5 => ?_) (fun c5 => ?_)
    · have hf := it_t hf c5
      refine lv_aload_n hx hb dX8_lawOf_145 rfl (lv_at hl 0 rfl) ?_
      refine rm_get hx hb hts inM hown hK hB 20 (Nat.le_of_ble_eq_true rfl) qf_62 rfl dX8_lawOf_146 ?_
      refine lv_iconst (v := 0) hx hb dX8_lawOf_149 (by decide) ?_
      refine rm_ald hx hb hK hB 17 rfl (by decide) dX8_lawOf_150 ?_
      refine lv_topi (fun y6 ey6 => ?_)
      have hf := sq_e hf y6 ey6
      refine lv_sipush (v := 9999) hx hb dX8_lawOf_151 (by decide) ?_
      refine lv_icmp_le (tgt := 163) hx hb dX8_lawOf_154 (by decide) (fun c7 => ?_) (fun c7 => ?_)
      · have hf := it_t hf c7
        refine lv_aload_n hx hb dX8_lawOf_163 rfl (lv_at hl 0 rfl) ?_
        refine rm_get hx hb hts inM hown hK hB 20 (Nat.le_of_ble_eq_true rfl) qf_62 rfl dX8_lawOf_164 ?_
        refine lv_iconst (v := 0) hx hb dX8_lawOf_167 (by decide) ?_
        refine rm_ald hx hb hK hB 17 rfl (by decide) dX8_lawOf_168 ?_
        refine lv_topi (fun y8 ey8 => ?_)
        have hf := sq_e hf y8 ey8
        obtain ⟨rfl, rfl⟩ := so_e hf
        exact rm_iret hx hb hr hlocks hK hB dX8_lawOf_169
      · have hf := it_f hf c7
        refine lv_sipush (v := 9999) hx hb dX8_lawOf_157 (by decide) ?_
        refine lv_goto (tgt := 169) hx hb dX8_lawOf_160 (by decide) ?_
        obtain ⟨rfl, rfl⟩ := so_e hf
        exact rm_iret hx hb hr hlocks hK hB dX8_lawOf_169
    · have hf := it_f hf c5
      refine lv_iconst (v := 0) hx hb dX8_lawOf_141 (by decide) ?_
      refine lv_goto (tgt := 169) hx hb dX8_lawOf_142 (by decide) ?_
      obtain ⟨rfl, rfl⟩ := so_e hf
      exact rm_iret hx hb hr hlocks hK hB dX8_lawOf_169
  · have hf := it_f hf c3
    refine lv_aload_n hx hb dX8_lawOf_24 rfl (lv_at hl 0 rfl) ?_
    refine rm_get hx hb hts inM hown hK hB 17 (Nat.le_of_ble_eq_true rfl) qf_53 rfl dX8_lawOf_25 ?_
    refine lv_iload hx hb dX8_lawOf_28 (lv_at hl 7 rfl) ?_
    obtain ⟨k9, hf⟩ := ck_e hf
    refine rm_ald hx hb hK hB 14 rfl k9 dX8_lawOf_30 ?_
    refine lv_topi (fun y10 ey10 => ?_)
    have hf := sq_e hf y10 ey10
    refine lv_istore (lv' := [(8, .int y10), (0, .ref (ad 0)), (1, .int x1), (2, .int x2), (3, .int x3), (4, .int x4), (5, .int x5), (6, .int x6), (7, .int x7)]) hx hb dX8_lawOf_31 hl (by decide) rfl (fun ls hl => ?_)
    refine lv_iload hx hb dX8_lawOf_33 (lv_at hl 0 rfl) ?_
    refine lv_sipush (v := 1000) hx hb dX8_lawOf_35 (by decide) ?_
    refine lv_icmp_lt (tgt := 60) hx hb dX8_lawOf_38 (by decide) (fun c11 => ?_) (fun c11 => ?_)
    · have hf := it_t hf c11
      refine lv_iload hx hb dX8_lawOf_60 (lv_at hl 0 rfl) ?_
      obtain ⟨r12, σ13, hkr12, hf⟩ := bd_e hf
      refine rm_calliS (av := [.int y10]) (rest := []) hx hb hml hown hts hl.1 hK hA hB (cm_isField l D ad cy n σ y10 hkr12) (kw_isField hts ⟨Nat.le_of_ble_eq_true rfl, Nat.le_of_ble_eq_true rfl⟩) rfl rfl (lv_room (Nat.le_of_ble_eq_true rfl)) dX8_lawOf_62 (Nat.le_refl _) (Nat.le_refl _) (fun H locs hB => ?_)
      refine lv_if_eq (tgt := 93) hx hb dX8_lawOf_65 (by decide) (fun c14 => ?_) (fun c14 => ?_)
      · have hf := it_t hf c14
        obtain ⟨y15, ey15⟩ : ∃ z : Int32, z = x6 + (-1) := ⟨_, rfl⟩
        have hf := sq_e hf y15 ey15
        refine lv_iinc (v := y15) (lv' := [(6, .int y15), (8, .int y10), (0, .ref (ad 0)), (1, .int x1), (2, .int x2), (3, .int x3), (4, .int x4), (5, .int x5), (7, .int x7)]) hx hb dX8_lawOf_93 hl (k := 7) rfl (by rw [ey15]; rfl) (by decide) rfl (fun ls hl => ?_)
        refine lv_aload_n hx hb dX8_lawOf_96 rfl (lv_at hl 2 rfl) ?_
        refine rm_get hx hb hts inM hown hK hB 20 (Nat.le_of_ble_eq_true rfl) qf_62 rfl dX8_lawOf_97 ?_
        refine lv_iload hx hb dX8_lawOf_100 (lv_at hl 0 rfl) ?_
        refine lv_iconst (v := 1) hx hb dX8_lawOf_102 (by decide) ?_
        refine lv_isub hx hb dX8_lawOf_103 ?_
        refine lv_iload hx hb dX8_lawOf_104 (lv_at hl 1 rfl) ?_
        refine lv_aload_n hx hb dX8_lawOf_106 rfl (lv_at hl 2 rfl) ?_
        refine rm_get hx hb hts inM hown hK hB 20 (Nat.le_of_ble_eq_true rfl) qf_62 rfl dX8_lawOf_107 ?_
        refine lv_iload hx hb dX8_lawOf_110 (lv_at hl 0 rfl) ?_
        refine lv_iconst (v := 1) hx hb dX8_lawOf_112 (by decide) ?_
        refine lv_isub hx hb dX8_lawOf_113 ?_
        obtain ⟨k16, hf⟩ := ck_e hf
        refine rm_ald hx hb hK hB 17 rfl k16 dX8_lawOf_114 ?_
        refine lv_topi (fun y17 ey17 => ?_)
        have hf := sq_e hf y17 ey17
        refine lv_aload_n hx hb dX8_lawOf_115 rfl (lv_at hl 2 rfl) ?_
        refine rm_get hx hb hts inM hown hK hB 20 (Nat.le_of_ble_eq_true rfl) qf_62 rfl dX8_lawOf_116 ?_
        refine lv_iload hx hb dX8_lawOf_119 (lv_at hl 0 rfl) ?_
        obtain ⟨k18, hf⟩ := ck_e hf
        refine rm_ald hx hb hK hB 17 rfl k18 dX8_lawOf_121 ?_
        refine lv_topi (fun y19 ey19 => ?_)
        have hf := sq_e hf y19 ey19
        obtain ⟨r20, σ21, hkr20, hf⟩ := bd_e hf
        refine rm_calliS (av := [.int y10, .int y17, .int y19]) (rest := [.int (y15 - 1), .ref (ad 17)]) hx hb hml hown hts hl.1 hK hA hB (cm_two l D ad cy n σ13 y10 y17 y19 hkr20) (kw_two hts ⟨Nat.le_of_ble_eq_true rfl, Nat.le_of_ble_eq_true rfl⟩) rfl rfl (lv_room (Nat.le_of_ble_eq_true rfl)) dX8_lawOf_122 (Nat.le_refl _) (Nat.le_refl _) (fun H locs hB => ?_)
        obtain ⟨k22, hf⟩ := ck_e hf
        refine rm_ast hx hb hK hB 17 rfl (msa_17 _ _ _) k22 dX8_lawOf_125 (fun σ23 eσ23 H locs hB => ?_)
        have hf := sq_e hf σ23 eσ23
        obtain ⟨y24, ey24⟩ : ∃ z : Int32, z = x7 + 1 := ⟨_, rfl⟩
        have hf := sq_e hf y24 ey24
        refine lv_iinc (v := y24) (lv' := [(7, .int y24), (6, .int y15), (8, .int y10), (0, .ref (ad 0)), (1, .int x1), (2, .int x2), (3, .int x3), (4, .int x4), (5, .int x5)]) hx hb dX8_lawOf_126 hl (k := 8) rfl (by rw [ey24]; rfl) (by decide) rfl (fun ls hl => ?_)
        refine lv_goto (tgt := 11) hx hb dX8_lawOf_129 (by decide) ?_
        exact hK11 σ23 x1 x2 x3 x4 x5 y15 y24 _ _ _ hB (lv_sub hl [3, 4, 5, 6, 7, 8, 1, 0] rfl) hf
      · have hf := it_f hf c14
        refine lv_aload_n hx hb dX8_lawOf_68 rfl (lv_at hl 1 rfl) ?_
        refine rm_get hx hb hts inM hown hK hB 20 (Nat.le_of_ble_eq_true rfl) qf_62 rfl dX8_lawOf_69 ?_
        refine lv_iload hx hb dX8_lawOf_72 (lv_at hl 7 rfl) ?_
        refine lv_aload_n hx hb dX8_lawOf_74 rfl (lv_at hl 1 rfl) ?_
        refine lv_iload hx hb dX8_lawOf_75 (lv_at hl 0 rfl) ?_
        refine lv_iload_n hx hb dX8_lawOf_77 rfl (lv_at hl 3 rfl) ?_
        refine lv_iload_n hx hb dX8_lawOf_78 rfl (lv_at hl 4 rfl) ?_
        refine lv_iload hx hb dX8_lawOf_79 (lv_at hl 5 rfl) ?_
        refine lv_iload hx hb dX8_lawOf_81 (lv_at hl 6 rfl) ?_
        obtain ⟨r25, σ26, hkr25, hf⟩ := bd_e hf
        refine rm_calliV (av := [.int y10, .int x2, .int x3, .int x4, .int x5]) (rest := [.int x6, .ref (ad 17)]) hx hb hml hown hts hl.1 hK hA hB (cm_fieldOf l D ad cy n σ13 y10 x2 x3 x4 x5 hkr25) (kw_fieldOf hts ⟨Nat.le_of_ble_eq_true rfl, Nat.le_of_ble_eq_true rfl⟩) rfl rfl (lv_room (Nat.le_of_ble_eq_true rfl)) dX8_lawOf_83 (Nat.le_refl _) (Nat.le_refl _) (fun H locs hB => ?_)
        obtain ⟨k27, hf⟩ := ck_e hf
        refine rm_ast hx hb hK hB 17 rfl (msa_17 _ _ _) k27 dX8_lawOf_86 (fun σ28 eσ28 H locs hB => ?_)
        have hf := sq_e hf σ28 eσ28
        obtain ⟨y29, ey29⟩ : ∃ z : Int32, z = x6 + 1 := ⟨_, rfl⟩
        have hf := sq_e hf y29 ey29
        refine lv_iinc (v := y29) (lv' := [(6, .int y29), (8, .int y10), (0, .ref (ad 0)), (1, .int x1), (2, .int x2), (3, .int x3), (4, .int x4), (5, .int x5), (7, .int x7)]) hx hb dX8_lawOf_87 hl (k := 7) rfl (by rw [ey29]; rfl) (by decide) rfl (fun ls hl => ?_)
        refine lv_goto (tgt := 126) hx hb dX8_lawOf_90 (by decide) ?_
        obtain ⟨y30, ey30⟩ : ∃ z : Int32, z = x7 + 1 := ⟨_, rfl⟩
        have hf := sq_e hf y30 ey30
        refine lv_iinc (v := y30) (lv' := [(7, .int y30), (6, .int y29), (8, .int y10), (0, .ref (ad 0)), (1, .int x1), (2, .int x2), (3, .int x3), (4, .int x4), (5, .int x5)]) hx hb dX8_lawOf_126 hl (k := 8) rfl (by rw [ey30]; rfl) (by decide) rfl (fun ls hl => ?_)
        refine lv_goto (tgt := 11) hx hb dX8_lawOf_129 (by decide) ?_
        exact hK11 σ28 x1 x2 x3 x4 x5 y29 y30 _ _ _ hB (lv_sub hl [3, 4, 5, 6, 7, 8, 1, 0] rfl) hf
    · have hf := it_f hf c11
      refine lv_aload_n hx hb dX8_lawOf_41 rfl (lv_at hl 1 rfl) ?_
      refine rm_get hx hb hts inM hown hK hB 20 (Nat.le_of_ble_eq_true rfl) qf_62 rfl dX8_lawOf_42 ?_
      refine lv_iload hx hb dX8_lawOf_45 (lv_at hl 7 rfl) ?_
      refine lv_iload hx hb dX8_lawOf_47 (lv_at hl 0 rfl) ?_
      refine lv_sipush (v := 1000) hx hb dX8_lawOf_49 (by decide) ?_
      refine lv_isub hx hb dX8_lawOf_52 ?_
      obtain ⟨k31, hf⟩ := ck_e hf
      refine rm_ast hx hb hK hB 17 rfl (msa_17 _ _ _) k31 dX8_lawOf_53 (fun σ32 eσ32 H locs hB => ?_)
      have hf := sq_e hf σ32 eσ32
      obtain ⟨y33, ey33⟩ : ∃ z : Int32, z = x6 + 1 := ⟨_, rfl⟩
      have hf := sq_e hf y33 ey33
      refine lv_iinc (v := y33) (lv' := [(6, .int y33), (8, .int y10), (0, .ref (ad 0)), (1, .int x1), (2, .int x2), (3, .int x3), (4, .int x4), (5, .int x5), (7, .int x7)]) hx hb dX8_lawOf_54 hl (k := 7) rfl (by rw [ey33]; rfl) (by decide) rfl (fun ls hl => ?_)
      refine lv_goto (tgt := 126) hx hb dX8_lawOf_57 (by decide) ?_
      obtain ⟨y34, ey34⟩ : ∃ z : Int32, z = x7 + 1 := ⟨_, rfl⟩
      have hf := sq_e hf y34 ey34
      refine lv_iinc (v := y34) (lv' := [(7, .int y34), (6, .int y33), (8, .int y10), (0, .ref (ad 0)), (1, .int x1), (2, .int x2), (3, .int x3), (4, .int x4), (5, .int x5)]) hx hb dX8_lawOf_126 hl (k := 8) rfl (by rw [ey34]; rfl) (by decide) rfl (fun ls hl => ?_)
      refine lv_goto (tgt := 11) hx hb dX8_lawOf_129 (by decide) ?_
      exact hK11 σ32 x1 x2 x3 x4 x5 y33 y34 _ _ _ hB (lv_sub hl [3, 4, 5, 6, 7, 8, 1, 0] rfl) hf
def lm_lawOf_11 (n : Nat) : Nat → MS → Int32 → Int32 → Int32 → Int32 → Int32 → Int32 → Int32 → Option (Int32 × MS)
  | 0 => fun _ _ _ _ _ _ _ _ => none
  | k + 1 => bm_lawOf_11 n (lm_lawOf_11 n k)
theorem tlm_lawOf_11 {p : Program} {l : Launch} {e : Env} {s : State} {m : MethodId} {args : Array Value} {below : List Frame} {meth : Method} {c : Code} {D : va_G} {A : Nat → Prop} {ad : Nat → Nat} {cy : ClassId} {r0 : Int32} {σ0 : MS} (hc : cxB RX8 wsM cX8_lawOf 9 (some .int) p s m args meth c) (hK : va_K D vwCl [(cy, .int)] s) (hA : ∀ q, s.heap.size ≤ q → A q) (n : Nat) : ∀ (k : Nat) (σ : MS) (x1 : Int32) (x2 : Int32) (x3 : Int32) (x4 : Int32) (x5 : Int32) (x6 : Int32) (x7 : Int32) (H : Heap) (locs : List Loc) (ls : Array Slot), mB D ad cy A s.heap σ H locs → lv_has ls 9 [(0, .ref (ad 0)), (1, .int x1), (2, .int x2), (3, .int x3), (4, .int x4), (5, .int x5), (6, .int x6), (7, .int x7)] → lm_lawOf_11 n k σ x1 x2 x3 x4 x5 x6 x7 = some (r0, σ0) → W p l e rm_lawOf s m args below meth c H locs 0 0 (MQ below (mQi D ad cy A r0 σ0) args s 0 0 A) (F0 m 11 ls []) := by
  intro k
  induction k with
  | zero =>
    intro σ x1 x2 x3 x4 x5 x6 x7 H locs ls hB hl hf
    have hf : (none : Option (Int32 × MS)) = some (r0, σ0) := hf
    cases hf
  | succ k ih =>
    intro σ x1 x2 x3 x4 x5 x6 x7 H locs ls hB hl hf
    exact tbm_lawOf_11 hc hK hA n (lm_lawOf_11 n k) ih σ x1 x2 x3 x4 x5 x6 x7 hB hl hf
def fm_lawOf (n : Nat) (σ : MS) (x1 : Int32) (x2 : Int32) (x3 : Int32) (x4 : Int32) (x5 : Int32) : Option (Int32 × MS) := sq (0 : Int32) (fun y1 => ck (ib x1 10) (sq ((σ.1 15 (Int32.toNatClampNeg x1)) : Int32) (fun y3 => lm_lawOf_11 n n σ x1 x2 x3 x4 x5 y1 y3)))
set_option maxRecDepth 100000 in
set_option maxHeartbeats 4000000 in
theorem tbm_lawOf_0 {p : Program} {l : Launch} {e : Env} {s : State} {m : MethodId} {args : Array Value} {below : List Frame} {meth : Method} {c : Code} {D : va_G} {A : Nat → Prop} {ad : Nat → Nat} {cy : ClassId} {r0 : Int32} {σ0 : MS} (hc : cxB RX8 wsM cX8_lawOf 9 (some .int) p s m args meth c) (hK : va_K D vwCl [(cy, .int)] s) (hA : ∀ q, s.heap.size ≤ q → A q) (n : Nat) (σ : MS) (x1 : Int32) (x2 : Int32) (x3 : Int32) (x4 : Int32) (x5 : Int32) {H : Heap} {locs : List Loc} {ls : Array Slot} (hB : mB D ad cy A s.heap σ H locs) (hl : lv_has ls 9 [(0, .ref (ad 0)), (1, .int x1), (2, .int x2), (3, .int x3), (4, .int x4), (5, .int x5)]) (hf : fm_lawOf n σ x1 x2 x3 x4 x5 = some (r0, σ0)) : W p l e rm_lawOf s m args below meth c H locs 0 0 (MQ below (mQi D ad cy A r0 σ0) args s 0 0 A) (F0 m 0 ls []) := by
  obtain ⟨hx, hb, hml, hown, hts, hr, hlocks⟩ := id hc
  unfold fm_lawOf at hf
  refine lv_iconst (v := 0) hx hb dX8_lawOf_0 (by decide) ?_
  refine lv_topi (fun y1 ey1 => ?_)
  have hf := sq_e hf y1 ey1
  refine lv_istore (lv' := [(6, .int y1), (0, .ref (ad 0)), (1, .int x1), (2, .int x2), (3, .int x3), (4, .int x4), (5, .int x5)]) hx hb dX8_lawOf_1 hl (by decide) rfl (fun ls hl => ?_)
  refine lv_aload_n hx hb dX8_lawOf_3 rfl (lv_at hl 1 rfl) ?_
  refine rm_get hx hb hts inM hown hK hB 18 (Nat.le_of_ble_eq_true rfl) qf_56 rfl dX8_lawOf_4 ?_
  refine lv_iload_n hx hb dX8_lawOf_7 rfl (lv_at hl 2 rfl) ?_
  obtain ⟨k2, hf⟩ := ck_e hf
  refine rm_ald hx hb hK hB 15 rfl k2 dX8_lawOf_8 ?_
  refine lv_topi (fun y3 ey3 => ?_)
  have hf := sq_e hf y3 ey3
  refine lv_istore (lv' := [(7, .int y3), (6, .int y1), (0, .ref (ad 0)), (1, .int x1), (2, .int x2), (3, .int x3), (4, .int x4), (5, .int x5)]) hx hb dX8_lawOf_9 hl (by decide) rfl (fun ls hl => ?_)
  exact tlm_lawOf_11 hc hK hA n n σ x1 x2 x3 x4 x5 y1 y3 _ _ _ hB (lv_sub hl [2, 3, 4, 5, 6, 7, 1, 0] rfl) hf
theorem cm_lawOf (l : Launch) (D : va_G) (ad : Nat → Nat) (cy : ClassId) (n : Nat) (σ : MS) (x1 : Int32) (x2 : Int32) (x3 : Int32) (x4 : Int32) (x5 : Int32) {r0 : Int32} {σ0 : MS} (hf : fm_lawOf n σ x1 x2 x3 x4 x5 = some (r0, σ0)) : mMi l yX8_lawOf wn_lawOf rm_lawOf D ad cy [.ref (ad 0), .int x1, .int x2, .int x3, .int x4, .int x5] σ r0 σ0 :=
  rm_meti (ret := (some .int)) (by decide) rfl (Nat.le_of_ble_eq_true rfl) (fun p e s m below meth c A ls hc hK hA hB hl => tbm_lawOf_0 hc hK hA n σ x1 x2 x3 x4 x5 hB hl hf)
theorem kw_lawOf {R : Room} {s : State} {args : Array Value} (hts : ∀ w ∈ wsM, w.before args s = true) (hR : rm_lawOf.frames + 1 ≤ R.frames ∧ 8 + (9 + 11) + rm_lawOf.locals ≤ R.locals) : CallW R s args RX8 RX8 200 yX8_lawOf cX8_lawOf 9 (some .int) wn_lawOf rm_lawOf 0 0 5 := cwV 5 hts (gM_v qw_129 qw_130 qw_131 qw_37 qw_115) rfl rfl rfl (by decide +kernel) hR
/-! takeOf -/
abbrev rm_takeOf : Room := { frames := 2, cells := 0, slots := 0, locals := 53 }
abbrev wn_takeOf : List Cond := .code yX8_takeOf cX8_takeOf 6 (some .int) :: wsM
def fm_takeOf (n : Nat) (σ : MS) (x1 : Int32) (x2 : Int32) (x3 : Int32) (x4 : Int32) : Option (Int32 × MS) := bd (fm_toneOf n σ (σ.1 0 25) (σ.1 0 26)) (fun r1 σ2 => if (x2 = 0) then (if ((σ2.1 0 30) = 0) then (some (0, σ2)) else (ck (ib (σ2.1 0 25) 7) (sq ((σ2.1 6 (Int32.toNatClampNeg (σ2.1 0 25))) : Int32) (fun y29 => if (y29 < 5) then (bd (fm_lawOf n σ2 x1 (σ2.1 0 25) (σ2.1 0 27) (σ2.1 0 26) r1) (fun r31 σ32 => some (r31, σ32))) else (bd (fm_lawOf n σ2 x1 (σ2.1 0 25) (σ2.1 0 27) (σ2.1 0 26) r1) (fun r33 σ34 => some ((r33 / 2), σ34))))))) else (if (x2 = 2) then (if (r1 < 100) then (some (0, σ2)) else (bd (fm_lawOf n σ2 x1 (σ2.1 0 25) (σ2.1 0 27) (σ2.1 0 26) r1) (fun r25 σ26 => some (r25, σ26)))) else (if (x2 = 3) then (ck (ib (σ2.1 0 25) 7) (sq ((σ2.1 5 (Int32.toNatClampNeg (σ2.1 0 25))) : Int32) (fun y20 => if ((10 * (9 - y20)) ≤ (σ2.1 0 26)) then (some (0, σ2)) else (bd (fm_lawOf n σ2 x1 (σ2.1 0 25) (σ2.1 0 27) (σ2.1 0 26) r1) (fun r22 σ23 => some (r22, σ23)))))) else (if (x2 = 4) then (bd (fm_lawOf n σ2 x1 (σ2.1 0 25) (σ2.1 0 27) (σ2.1 0 26) r1) (fun r15 σ16 => ck (ib (σ16.1 0 27) 4) (sq ((σ16.1 8 (Int32.toNatClampNeg (σ16.1 0 27))) : Int32) (fun y18 => some (((r15 * (9 - y18)) / 9), σ16))))) else (if (x2 = 6) then (bd (fm_isIn n σ2 (σ2.1 0 29) x3 x4) (fun r10 σ11 => if (r10 = 0) then (some (0, σ11)) else (bd (fm_lawOf n σ11 x1 (σ11.1 0 25) (σ11.1 0 27) (σ11.1 0 26) r1) (fun r13 σ14 => some (r13, σ14))))) else (bd (fm_lawOf n σ2 x1 (σ2.1 0 25) (σ2.1 0 27) (σ2.1 0 26) r1) (fun r3 σ4 => some (r3, σ4))))))))
set_option maxRecDepth 100000 in
set_option maxHeartbeats 4000000 in
theorem tbm_takeOf_0 {p : Program} {l : Launch} {e : Env} {s : State} {m : MethodId} {args : Array Value} {below : List Frame} {meth : Method} {c : Code} {D : va_G} {A : Nat → Prop} {ad : Nat → Nat} {cy : ClassId} {r0 : Int32} {σ0 : MS} (hc : cxB RX8 wsM cX8_takeOf 6 (some .int) p s m args meth c) (hK : va_K D vwCl [(cy, .int)] s) (hA : ∀ q, s.heap.size ≤ q → A q) (n : Nat) (σ : MS) (x1 : Int32) (x2 : Int32) (x3 : Int32) (x4 : Int32) {H : Heap} {locs : List Loc} {ls : Array Slot} (hB : mB D ad cy A s.heap σ H locs) (hl : lv_has ls 6 [(0, .ref (ad 0)), (1, .int x1), (2, .int x2), (3, .int x3), (4, .int x4)]) (hf : fm_takeOf n σ x1 x2 x3 x4 = some (r0, σ0)) : W p l e rm_takeOf s m args below meth c H locs 0 0 (MQ below (mQi D ad cy A r0 σ0) args s 0 0 A) (F0 m 0 ls []) := by
  obtain ⟨hx, hb, hml, hown, hts, hr, hlocks⟩ := id hc
  unfold fm_takeOf at hf
  refine lv_aload_n hx hb dX8_takeOf_0 rfl (lv_at hl 0 rfl) ?_
  refine lv_aload_n hx hb dX8_takeOf_1 rfl (lv_at hl 0 rfl) ?_
  refine rm_get hx hb hts inM hown hK hB 25 (Nat.le_of_ble_eq_true rfl) qf_184 rfl dX8_takeOf_2 ?_
  refine lv_aload_n hx hb dX8_takeOf_5 rfl (lv_at hl 0 rfl) ?_
  refine rm_get hx hb hts inM hown hK hB 26 (Nat.le_of_ble_eq_true rfl) qf_187 rfl dX8_takeOf_6 ?_
  obtain ⟨r1, σ2, hkr1, hf⟩ := bd_e hf
  refine rm_calliV (av := [.int (σ.1 0 25), .int (σ.1 0 26)]) (rest := []) hx hb hml hown hts hl.1 hK hA hB (cm_toneOf l D ad cy n σ (σ.1 0 25) (σ.1 0 26) hkr1) (kw_toneOf hts ⟨Nat.le_of_ble_eq_true rfl, Nat.le_of_ble_eq_true rfl⟩) rfl rfl (lv_room (Nat.le_of_ble_eq_true rfl)) dX8_takeOf_9 (Nat.le_refl _) (Nat.le_refl _) (fun H locs hB => ?_)
  refine lv_istore (lv' := [(5, .int r1), (0, .ref (ad 0)), (1, .int x1), (2, .int x2), (3, .int x3), (4, .int x4)]) hx hb dX8_takeOf_12 hl (by decide) rfl (fun ls hl => ?_)
  refine lv_iload_n hx hb dX8_takeOf_14 rfl (lv_at hl 3 rfl) ?_
  by_cases c5 : x2 = 0
  · have hf := it_t hf c5
    refine lv_tableIn (tgt := 56) hx hb dX8_takeOf_15 (by rw [c5]; decide) (by rw [c5]; decide) (by rw [c5]; rfl) (by decide) ?_
    refine lv_aload_n hx hb dX8_takeOf_56 rfl (lv_at hl 1 rfl) ?_
    refine rm_get hx hb hts inM hown hK hB 30 (Nat.le_of_ble_eq_true rfl) qf_194 rfl dX8_takeOf_57 ?_
    refine lv_if_ne (tgt := 65) hx hb dX8_takeOf_60 (by decide) (fun c27 => ?_) (fun c27 => ?_)
    · have hf := it_f hf c27
      refine lv_aload_n hx hb dX8_takeOf_65 rfl (lv_at hl 1 rfl) ?_
      refine rm_get hx hb hts inM hown hK hB 5 (Nat.le_of_ble_eq_true rfl) qf_25 rfl dX8_takeOf_66 ?_
      refine lv_aload_n hx hb dX8_takeOf_69 rfl (lv_at hl 1 rfl) ?_
      refine rm_get hx hb hts inM hown hK hB 25 (Nat.le_of_ble_eq_true rfl) qf_184 rfl dX8_takeOf_70 ?_
      obtain ⟨k28, hf⟩ := ck_e hf
      refine rm_ald hx hb hK hB 6 rfl k28 dX8_takeOf_73 ?_
      refine lv_topi (fun y29 ey29 => ?_)
      have hf := sq_e hf y29 ey29
      refine lv_iconst (v := 5) hx hb dX8_takeOf_74 (by decide) ?_
      refine lv_icmp_lt (tgt := 102) hx hb dX8_takeOf_75 (by decide) (fun c30 => ?_) (fun c30 => ?_)
      · have hf := it_t hf c30
        refine lv_aload_n hx hb dX8_takeOf_102 rfl (lv_at hl 1 rfl) ?_
        refine lv_iload_n hx hb dX8_takeOf_103 rfl (lv_at hl 2 rfl) ?_
        refine lv_aload_n hx hb dX8_takeOf_104 rfl (lv_at hl 1 rfl) ?_
        refine rm_get hx hb hts inM hown hK hB 25 (Nat.le_of_ble_eq_true rfl) qf_184 rfl dX8_takeOf_105 ?_
        refine lv_aload_n hx hb dX8_takeOf_108 rfl (lv_at hl 1 rfl) ?_
        refine rm_get hx hb hts inM hown hK hB 27 (Nat.le_of_ble_eq_true rfl) qf_197 rfl dX8_takeOf_109 ?_
        refine lv_aload_n hx hb dX8_takeOf_112 rfl (lv_at hl 1 rfl) ?_
        refine rm_get hx hb hts inM hown hK hB 26 (Nat.le_of_ble_eq_true rfl) qf_187 rfl dX8_takeOf_113 ?_
        refine lv_iload hx hb dX8_takeOf_116 (lv_at hl 0 rfl) ?_
        obtain ⟨r31, σ32, hkr31, hf⟩ := bd_e hf
        refine rm_calliV (av := [.int x1, .int (σ2.1 0 25), .int (σ2.1 0 27), .int (σ2.1 0 26), .int r1]) (rest := []) hx hb hml hown hts hl.1 hK hA hB (cm_lawOf l D ad cy n σ2 x1 (σ2.1 0 25) (σ2.1 0 27) (σ2.1 0 26) r1 hkr31) (kw_lawOf hts ⟨Nat.le_of_ble_eq_true rfl, Nat.le_of_ble_eq_true rfl⟩) rfl rfl (lv_room (Nat.le_of_ble_eq_true rfl)) dX8_takeOf_118 (Nat.le_refl _) (Nat.le_refl _) (fun H locs hB => ?_)
        obtain ⟨rfl, rfl⟩ := so_e hf
        exact rm_iret hx hb hr hlocks hK hB dX8_takeOf_121
      · have hf := it_f hf c30
        refine lv_aload_n hx hb dX8_takeOf_78 rfl (lv_at hl 1 rfl) ?_
        refine lv_iload_n hx hb dX8_takeOf_79 rfl (lv_at hl 2 rfl) ?_
        refine lv_aload_n hx hb dX8_takeOf_80 rfl (lv_at hl 1 rfl) ?_
        refine rm_get hx hb hts inM hown hK hB 25 (Nat.le_of_ble_eq_true rfl) qf_184 rfl dX8_takeOf_81 ?_
        refine lv_aload_n hx hb dX8_takeOf_84 rfl (lv_at hl 1 rfl) ?_
        refine rm_get hx hb hts inM hown hK hB 27 (Nat.le_of_ble_eq_true rfl) qf_197 rfl dX8_takeOf_85 ?_
        refine lv_aload_n hx hb dX8_takeOf_88 rfl (lv_at hl 1 rfl) ?_
        refine rm_get hx hb hts inM hown hK hB 26 (Nat.le_of_ble_eq_true rfl) qf_187 rfl dX8_takeOf_89 ?_
        refine lv_iload hx hb dX8_takeOf_92 (lv_at hl 0 rfl) ?_
        obtain ⟨r33, σ34, hkr33, hf⟩ := bd_e hf
        refine rm_calliV (av := [.int x1, .int (σ2.1 0 25), .int (σ2.1 0 27), .int (σ2.1 0 26), .int r1]) (rest := []) hx hb hml hown hts hl.1 hK hA hB (cm_lawOf l D ad cy n σ2 x1 (σ2.1 0 25) (σ2.1 0 27) (σ2.1 0 26) r1 hkr33) (kw_lawOf hts ⟨Nat.le_of_ble_eq_true rfl, Nat.le_of_ble_eq_true rfl⟩) rfl rfl (lv_room (Nat.le_of_ble_eq_true rfl)) dX8_takeOf_94 (Nat.le_refl _) (Nat.le_refl _) (fun H locs hB => ?_)
        refine lv_iconst (v := 2) hx hb dX8_takeOf_97 (by decide) ?_
        refine lv_idiv hx hb dX8_takeOf_98 (by decide) ?_
        refine lv_goto (tgt := 121) hx hb dX8_takeOf_99 (by decide) ?_
        obtain ⟨rfl, rfl⟩ := so_e hf
        exact rm_iret hx hb hr hlocks hK hB dX8_takeOf_121
    · have hf := it_t hf c27
      refine lv_iconst (v := 0) hx hb dX8_takeOf_63 (by decide) ?_
      obtain ⟨rfl, rfl⟩ := so_e hf
      exact rm_iret hx hb hr hlocks hK hB dX8_takeOf_64
  · have hf := it_f hf c5
    by_cases c6 : x2 = 2
    · have hf := it_t hf c6
      refine lv_tableIn (tgt := 122) hx hb dX8_takeOf_15 (by rw [c6]; decide) (by rw [c6]; decide) (by rw [c6]; rfl) (by decide) ?_
      refine lv_iload hx hb dX8_takeOf_122 (lv_at hl 0 rfl) ?_
      refine lv_bipush (v := 100) hx hb dX8_takeOf_124 (by decide) ?_
      refine lv_icmp_lt (tgt := 151) hx hb dX8_takeOf_126 (by decide) (fun c24 => ?_) (fun c24 => ?_)
      · have hf := it_t hf c24
        refine lv_iconst (v := 0) hx hb dX8_takeOf_151 (by decide) ?_
        obtain ⟨rfl, rfl⟩ := so_e hf
        exact rm_iret hx hb hr hlocks hK hB dX8_takeOf_152
      · have hf := it_f hf c24
        refine lv_aload_n hx hb dX8_takeOf_129 rfl (lv_at hl 1 rfl) ?_
        refine lv_iload_n hx hb dX8_takeOf_130 rfl (lv_at hl 2 rfl) ?_
        refine lv_aload_n hx hb dX8_takeOf_131 rfl (lv_at hl 1 rfl) ?_
        refine rm_get hx hb hts inM hown hK hB 25 (Nat.le_of_ble_eq_true rfl) qf_184 rfl dX8_takeOf_132 ?_
        refine lv_aload_n hx hb dX8_takeOf_135 rfl (lv_at hl 1 rfl) ?_
        refine rm_get hx hb hts inM hown hK hB 27 (Nat.le_of_ble_eq_true rfl) qf_197 rfl dX8_takeOf_136 ?_
        refine lv_aload_n hx hb dX8_takeOf_139 rfl (lv_at hl 1 rfl) ?_
        refine rm_get hx hb hts inM hown hK hB 26 (Nat.le_of_ble_eq_true rfl) qf_187 rfl dX8_takeOf_140 ?_
        refine lv_iload hx hb dX8_takeOf_143 (lv_at hl 0 rfl) ?_
        obtain ⟨r25, σ26, hkr25, hf⟩ := bd_e hf
        refine rm_calliV (av := [.int x1, .int (σ2.1 0 25), .int (σ2.1 0 27), .int (σ2.1 0 26), .int r1]) (rest := []) hx hb hml hown hts hl.1 hK hA hB (cm_lawOf l D ad cy n σ2 x1 (σ2.1 0 25) (σ2.1 0 27) (σ2.1 0 26) r1 hkr25) (kw_lawOf hts ⟨Nat.le_of_ble_eq_true rfl, Nat.le_of_ble_eq_true rfl⟩) rfl rfl (lv_room (Nat.le_of_ble_eq_true rfl)) dX8_takeOf_145 (Nat.le_refl _) (Nat.le_refl _) (fun H locs hB => ?_)
        refine lv_goto (tgt := 152) hx hb dX8_takeOf_148 (by decide) ?_
        obtain ⟨rfl, rfl⟩ := so_e hf
        exact rm_iret hx hb hr hlocks hK hB dX8_takeOf_152
    · have hf := it_f hf c6
      by_cases c7 : x2 = 3
      · have hf := it_t hf c7
        refine lv_tableIn (tgt := 153) hx hb dX8_takeOf_15 (by rw [c7]; decide) (by rw [c7]; decide) (by rw [c7]; rfl) (by decide) ?_
        refine lv_aload_n hx hb dX8_takeOf_153 rfl (lv_at hl 1 rfl) ?_
        refine rm_get hx hb hts inM hown hK hB 26 (Nat.le_of_ble_eq_true rfl) qf_187 rfl dX8_takeOf_154 ?_
        refine lv_bipush (v := 10) hx hb dX8_takeOf_157 (by decide) ?_
        refine lv_bipush (v := 9) hx hb dX8_takeOf_159 (by decide) ?_
        refine lv_aload_n hx hb dX8_takeOf_161 rfl (lv_at hl 1 rfl) ?_
        refine rm_get hx hb hts inM hown hK hB 4 (Nat.le_of_ble_eq_true rfl) qf_22 rfl dX8_takeOf_162 ?_
        refine lv_aload_n hx hb dX8_takeOf_165 rfl (lv_at hl 1 rfl) ?_
        refine rm_get hx hb hts inM hown hK hB 25 (Nat.le_of_ble_eq_true rfl) qf_184 rfl dX8_takeOf_166 ?_
        obtain ⟨k19, hf⟩ := ck_e hf
        refine rm_ald hx hb hK hB 5 rfl k19 dX8_takeOf_169 ?_
        refine lv_topi (fun y20 ey20 => ?_)
        have hf := sq_e hf y20 ey20
        refine lv_isub hx hb dX8_takeOf_170 ?_
        refine lv_imul hx hb dX8_takeOf_171 ?_
        refine lv_icmp_ge (tgt := 197) hx hb dX8_takeOf_172 (by decide) (fun c21 => ?_) (fun c21 => ?_)
        · have hf := it_t hf c21
          refine lv_iconst (v := 0) hx hb dX8_takeOf_197 (by decide) ?_
          obtain ⟨rfl, rfl⟩ := so_e hf
          exact rm_iret hx hb hr hlocks hK hB dX8_takeOf_198
        · have hf := it_f hf c21
          refine lv_aload_n hx hb dX8_takeOf_175 rfl (lv_at hl 1 rfl) ?_
          refine lv_iload_n hx hb dX8_takeOf_176 rfl (lv_at hl 2 rfl) ?_
          refine lv_aload_n hx hb dX8_takeOf_177 rfl (lv_at hl 1 rfl) ?_
          refine rm_get hx hb hts inM hown hK hB 25 (Nat.le_of_ble_eq_true rfl) qf_184 rfl dX8_takeOf_178 ?_
          refine lv_aload_n hx hb dX8_takeOf_181 rfl (lv_at hl 1 rfl) ?_
          refine rm_get hx hb hts inM hown hK hB 27 (Nat.le_of_ble_eq_true rfl) qf_197 rfl dX8_takeOf_182 ?_
          refine lv_aload_n hx hb dX8_takeOf_185 rfl (lv_at hl 1 rfl) ?_
          refine rm_get hx hb hts inM hown hK hB 26 (Nat.le_of_ble_eq_true rfl) qf_187 rfl dX8_takeOf_186 ?_
          refine lv_iload hx hb dX8_takeOf_189 (lv_at hl 0 rfl) ?_
          obtain ⟨r22, σ23, hkr22, hf⟩ := bd_e hf
          refine rm_calliV (av := [.int x1, .int (σ2.1 0 25), .int (σ2.1 0 27), .int (σ2.1 0 26), .int r1]) (rest := []) hx hb hml hown hts hl.1 hK hA hB (cm_lawOf l D ad cy n σ2 x1 (σ2.1 0 25) (σ2.1 0 27) (σ2.1 0 26) r1 hkr22) (kw_lawOf hts ⟨Nat.le_of_ble_eq_true rfl, Nat.le_of_ble_eq_true rfl⟩) rfl rfl (lv_room (Nat.le_of_ble_eq_true rfl)) dX8_takeOf_191 (Nat.le_refl _) (Nat.le_refl _) (fun H locs hB => ?_)
          refine lv_goto (tgt := 198) hx hb dX8_takeOf_194 (by decide) ?_
          obtain ⟨rfl, rfl⟩ := so_e hf
          exact rm_iret hx hb hr hlocks hK hB dX8_takeOf_198
      · have hf := it_f hf c7
        by_cases c8 : x2 = 4
        · have hf := it_t hf c8
          refine lv_tableIn (tgt := 199) hx hb dX8_takeOf_15 (by rw [c8]; decide) (by rw [c8]; decide) (by rw [c8]; rfl) (by decide) ?_
          refine lv_aload_n hx hb dX8_takeOf_199 rfl (lv_at hl 1 rfl) ?_
          refine lv_iload_n hx hb dX8_takeOf_200 rfl (lv_at hl 2 rfl) ?_
          refine lv_aload_n hx hb dX8_takeOf_201 rfl (lv_at hl 1 rfl) ?_
          refine rm_get hx hb hts inM hown hK hB 25 (Nat.le_of_ble_eq_true rfl) qf_184 rfl dX8_takeOf_202 ?_
          refine lv_aload_n hx hb dX8_takeOf_205 rfl (lv_at hl 1 rfl) ?_
          refine rm_get hx hb hts inM hown hK hB 27 (Nat.le_of_ble_eq_true rfl) qf_197 rfl dX8_takeOf_206 ?_
          refine lv_aload_n hx hb dX8_takeOf_209 rfl (lv_at hl 1 rfl) ?_
          refine rm_get hx hb hts inM hown hK hB 26 (Nat.le_of_ble_eq_true rfl) qf_187 rfl dX8_takeOf_210 ?_
          refine lv_iload hx hb dX8_takeOf_213 (lv_at hl 0 rfl) ?_
          obtain ⟨r15, σ16, hkr15, hf⟩ := bd_e hf
          refine rm_calliV (av := [.int x1, .int (σ2.1 0 25), .int (σ2.1 0 27), .int (σ2.1 0 26), .int r1]) (rest := []) hx hb hml hown hts hl.1 hK hA hB (cm_lawOf l D ad cy n σ2 x1 (σ2.1 0 25) (σ2.1 0 27) (σ2.1 0 26) r1 hkr15) (kw_lawOf hts ⟨Nat.le_of_ble_eq_true rfl, Nat.le_of_ble_eq_true rfl⟩) rfl rfl (lv_room (Nat.le_of_ble_eq_true rfl)) dX8_takeOf_215 (Nat.le_refl _) (Nat.le_refl _) (fun H locs hB => ?_)
          refine lv_bipush (v := 9) hx hb dX8_takeOf_218 (by decide) ?_
          refine lv_aload_n hx hb dX8_takeOf_220 rfl (lv_at hl 1 rfl) ?_
          refine rm_get hx hb hts inM hown hK hB 7 (Nat.le_of_ble_eq_true rfl) qf_31 rfl dX8_takeOf_221 ?_
          refine lv_aload_n hx hb dX8_takeOf_224 rfl (lv_at hl 1 rfl) ?_
          refine rm_get hx hb hts inM hown hK hB 27 (Nat.le_of_ble_eq_true rfl) qf_197 rfl dX8_takeOf_225 ?_
          obtain ⟨k17, hf⟩ := ck_e hf
          refine rm_ald hx hb hK hB 8 rfl k17 dX8_takeOf_228 ?_
          refine lv_topi (fun y18 ey18 => ?_)
          have hf := sq_e hf y18 ey18
          refine lv_isub hx hb dX8_takeOf_229 ?_
          refine lv_imul hx hb dX8_takeOf_230 ?_
          refine lv_bipush (v := 9) hx hb dX8_takeOf_231 (by decide) ?_
          refine lv_idiv hx hb dX8_takeOf_233 (by decide) ?_
          obtain ⟨rfl, rfl⟩ := so_e hf
          exact rm_iret hx hb hr hlocks hK hB dX8_takeOf_234
        · have hf := it_f hf c8
          by_cases c9 : x2 = 6
          · have hf := it_t hf c9
            refine lv_tableIn (tgt := 235) hx hb dX8_takeOf_15 (by rw [c9]; decide) (by rw [c9]; decide) (by rw [c9]; rfl) (by decide) ?_
            refine lv_aload_n hx hb dX8_takeOf_235 rfl (lv_at hl 1 rfl) ?_
            refine rm_get hx hb hts inM hown hK hB 29 (Nat.le_of_ble_eq_true rfl) qf_203 rfl dX8_takeOf_236 ?_
            refine lv_iload_n hx hb dX8_takeOf_239 rfl (lv_at hl 4 rfl) ?_
            refine lv_iload hx hb dX8_takeOf_240 (lv_at hl 5 rfl) ?_
            obtain ⟨r10, σ11, hkr10, hf⟩ := bd_e hf
            refine rm_calliS (av := [.int (σ2.1 0 29), .int x3, .int x4]) (rest := []) hx hb hml hown hts hl.1 hK hA hB (cm_isIn l D ad cy n σ2 (σ2.1 0 29) x3 x4 hkr10) (kw_isIn hts ⟨Nat.le_of_ble_eq_true rfl, Nat.le_of_ble_eq_true rfl⟩) rfl rfl (lv_room (Nat.le_of_ble_eq_true rfl)) dX8_takeOf_242 (Nat.le_refl _) (Nat.le_refl _) (fun H locs hB => ?_)
            refine lv_if_eq (tgt := 270) hx hb dX8_takeOf_245 (by decide) (fun c12 => ?_) (fun c12 => ?_)
            · have hf := it_t hf c12
              refine lv_iconst (v := 0) hx hb dX8_takeOf_270 (by decide) ?_
              obtain ⟨rfl, rfl⟩ := so_e hf
              exact rm_iret hx hb hr hlocks hK hB dX8_takeOf_271
            · have hf := it_f hf c12
              refine lv_aload_n hx hb dX8_takeOf_248 rfl (lv_at hl 1 rfl) ?_
              refine lv_iload_n hx hb dX8_takeOf_249 rfl (lv_at hl 2 rfl) ?_
              refine lv_aload_n hx hb dX8_takeOf_250 rfl (lv_at hl 1 rfl) ?_
              refine rm_get hx hb hts inM hown hK hB 25 (Nat.le_of_ble_eq_true rfl) qf_184 rfl dX8_takeOf_251 ?_
              refine lv_aload_n hx hb dX8_takeOf_254 rfl (lv_at hl 1 rfl) ?_
              refine rm_get hx hb hts inM hown hK hB 27 (Nat.le_of_ble_eq_true rfl) qf_197 rfl dX8_takeOf_255 ?_
              refine lv_aload_n hx hb dX8_takeOf_258 rfl (lv_at hl 1 rfl) ?_
              refine rm_get hx hb hts inM hown hK hB 26 (Nat.le_of_ble_eq_true rfl) qf_187 rfl dX8_takeOf_259 ?_
              refine lv_iload hx hb dX8_takeOf_262 (lv_at hl 0 rfl) ?_
              obtain ⟨r13, σ14, hkr13, hf⟩ := bd_e hf
              refine rm_calliV (av := [.int x1, .int (σ11.1 0 25), .int (σ11.1 0 27), .int (σ11.1 0 26), .int r1]) (rest := []) hx hb hml hown hts hl.1 hK hA hB (cm_lawOf l D ad cy n σ11 x1 (σ11.1 0 25) (σ11.1 0 27) (σ11.1 0 26) r1 hkr13) (kw_lawOf hts ⟨Nat.le_of_ble_eq_true rfl, Nat.le_of_ble_eq_true rfl⟩) rfl rfl (lv_room (Nat.le_of_ble_eq_true rfl)) dX8_takeOf_264 (Nat.le_refl _) (Nat.le_refl _) (fun H locs hB => ?_)
              refine lv_goto (tgt := 271) hx hb dX8_takeOf_267 (by decide) ?_
              obtain ⟨rfl, rfl⟩ := so_e hf
              exact rm_iret hx hb hr hlocks hK hB dX8_takeOf_271
          · have hf := it_f hf c9
            refine sw_d (tgt := 272) hx hb dX8_takeOf_15 (by have n_0 := lv_neT c5 (a := 0) (by decide); have n_2 := lv_neT c6 (a := 2) (by decide); have n_3 := lv_neT c7 (a := 3) (by decide); have n_4 := lv_neT c8 (a := 4) (by decide); have n_6 := lv_neT c9 (a := 6) (by decide); rcases (show (x2).toInt < 0 ∨ 6 < (x2).toInt ∨ (x2).toInt = 1 ∨ (x2).toInt = 5 by omega) with q | q | q | q; exact Or.inl q; exact Or.inr (Or.inl q); exact Or.inr (Or.inr (by rw [q]; rfl)); exact Or.inr (Or.inr (by rw [q]; rfl))) (by decide) ?_
            refine lv_aload_n hx hb dX8_takeOf_272 rfl (lv_at hl 1 rfl) ?_
            refine lv_iload_n hx hb dX8_takeOf_273 rfl (lv_at hl 2 rfl) ?_
            refine lv_aload_n hx hb dX8_takeOf_274 rfl (lv_at hl 1 rfl) ?_
            refine rm_get hx hb hts inM hown hK hB 25 (Nat.le_of_ble_eq_true rfl) qf_184 rfl dX8_takeOf_275 ?_
            refine lv_aload_n hx hb dX8_takeOf_278 rfl (lv_at hl 1 rfl) ?_
            refine rm_get hx hb hts inM hown hK hB 27 (Nat.le_of_ble_eq_true rfl) qf_197 rfl dX8_takeOf_279 ?_
            refine lv_aload_n hx hb dX8_takeOf_282 rfl (lv_at hl 1 rfl) ?_
            refine rm_get hx hb hts inM hown hK hB 26 (Nat.le_of_ble_eq_true rfl) qf_187 rfl dX8_takeOf_283 ?_
            refine lv_iload hx hb dX8_takeOf_286 (lv_at hl 0 rfl) ?_
            obtain ⟨r3, σ4, hkr3, hf⟩ := bd_e hf
            refine rm_calliV (av := [.int x1, .int (σ2.1 0 25), .int (σ2.1 0 27), .int (σ2.1 0 26), .int r1]) (rest := []) hx hb hml hown hts hl.1 hK hA hB (cm_lawOf l D ad cy n σ2 x1 (σ2.1 0 25) (σ2.1 0 27) (σ2.1 0 26) r1 hkr3) (kw_lawOf hts ⟨Nat.le_of_ble_eq_true rfl, Nat.le_of_ble_eq_true rfl⟩) rfl rfl (lv_room (Nat.le_of_ble_eq_true rfl)) dX8_takeOf_288 (Nat.le_refl _) (Nat.le_refl _) (fun H locs hB => ?_)
            obtain ⟨rfl, rfl⟩ := so_e hf
            exact rm_iret hx hb hr hlocks hK hB dX8_takeOf_291
theorem cm_takeOf (l : Launch) (D : va_G) (ad : Nat → Nat) (cy : ClassId) (n : Nat) (σ : MS) (x1 : Int32) (x2 : Int32) (x3 : Int32) (x4 : Int32) {r0 : Int32} {σ0 : MS} (hf : fm_takeOf n σ x1 x2 x3 x4 = some (r0, σ0)) : mMi l yX8_takeOf wn_takeOf rm_takeOf D ad cy [.ref (ad 0), .int x1, .int x2, .int x3, .int x4] σ r0 σ0 :=
  rm_meti (ret := (some .int)) (by decide) rfl (Nat.le_of_ble_eq_true rfl) (fun p e s m below meth c A ls hc hK hA hB hl => tbm_takeOf_0 hc hK hA n σ x1 x2 x3 x4 hB hl hf)
theorem kw_takeOf {R : Room} {s : State} {args : Array Value} (hts : ∀ w ∈ wsM, w.before args s = true) (hR : rm_takeOf.frames + 1 ≤ R.frames ∧ 8 + (6 + 11) + rm_takeOf.locals ≤ R.locals) : CallW R s args RX8 RX8 219 yX8_takeOf cX8_takeOf 6 (some .int) wn_takeOf rm_takeOf 0 0 4 := cwV 4 hts (gM_v qw_138 qw_139 qw_140 qw_37 qw_132) rfl rfl rfl (by decide +kernel) hR
/-! begins -/
abbrev rm_begins : Room := { frames := 0, cells := 0, slots := 0, locals := 0 }
abbrev wn_begins : List Cond := .code yX8_begins cX8_begins 5 none :: wsM
def fm_begins (n : Nat) (σ : MS) (x1 : Int32) (x2 : Int32) (x3 : Int32) (x4 : Int32) : Option (Int32 × MS) := sq (mp σ 0 25 x1) (fun σ1 => sq (mp σ1 0 26 x2) (fun σ2 => sq (mp σ2 0 27 x3) (fun σ3 => sq (mp σ3 0 28 x4) (fun σ4 => sq (mp σ4 0 29 0) (fun σ5 => sq (mp σ5 0 30 (σ5.1 0 12)) (fun σ6 => sq (mp σ6 0 31 (-1)) (fun σ7 => some (0, σ7))))))))
set_option maxRecDepth 100000 in
set_option maxHeartbeats 4000000 in
theorem tbm_begins_0 {p : Program} {l : Launch} {e : Env} {s : State} {m : MethodId} {args : Array Value} {below : List Frame} {meth : Method} {c : Code} {D : va_G} {A : Nat → Prop} {ad : Nat → Nat} {cy : ClassId} {r0 : Int32} {σ0 : MS} (hc : cxB RX8 wsM cX8_begins 5 none p s m args meth c) (hK : va_K D vwCl [(cy, .int)] s) (hA : ∀ q, s.heap.size ≤ q → A q) (n : Nat) (σ : MS) (x1 : Int32) (x2 : Int32) (x3 : Int32) (x4 : Int32) {H : Heap} {locs : List Loc} {ls : Array Slot} (hB : mB D ad cy A s.heap σ H locs) (hl : lv_has ls 5 [(0, .ref (ad 0)), (1, .int x1), (2, .int x2), (3, .int x3), (4, .int x4)]) (hf : fm_begins n σ x1 x2 x3 x4 = some (r0, σ0)) : W p l e rm_begins s m args below meth c H locs 0 0 (MQ below (mQv D ad cy A σ0) args s 0 0 A) (F0 m 0 ls []) := by
  obtain ⟨hx, hb, hml, hown, hts, hr, hlocks⟩ := id hc
  unfold fm_begins at hf
  refine lv_aload_n hx hb dX8_begins_0 rfl (lv_at hl 0 rfl) ?_
  refine lv_iload_n hx hb dX8_begins_1 rfl (lv_at hl 1 rfl) ?_
  refine rm_puti hx hb hts inM hown hK hB 25 (Nat.le_of_ble_eq_true rfl) qf_184 (ms_25 _ _ _) rfl pd_25 rfl rfl dX8_begins_2 (fun σ1 eσ1 H locs hB => ?_)
  have hf := sq_e hf σ1 eσ1
  refine lv_aload_n hx hb dX8_begins_5 rfl (lv_at hl 0 rfl) ?_
  refine lv_iload_n hx hb dX8_begins_6 rfl (lv_at hl 2 rfl) ?_
  refine rm_puti hx hb hts inM hown hK hB 26 (Nat.le_of_ble_eq_true rfl) qf_187 (ms_26 _ _ _) rfl pd_26 rfl rfl dX8_begins_7 (fun σ2 eσ2 H locs hB => ?_)
  have hf := sq_e hf σ2 eσ2
  refine lv_aload_n hx hb dX8_begins_10 rfl (lv_at hl 0 rfl) ?_
  refine lv_iload_n hx hb dX8_begins_11 rfl (lv_at hl 3 rfl) ?_
  refine rm_puti hx hb hts inM hown hK hB 27 (Nat.le_of_ble_eq_true rfl) qf_197 (ms_27 _ _ _) rfl pd_27 rfl rfl dX8_begins_12 (fun σ3 eσ3 H locs hB => ?_)
  have hf := sq_e hf σ3 eσ3
  refine lv_aload_n hx hb dX8_begins_15 rfl (lv_at hl 0 rfl) ?_
  refine lv_iload hx hb dX8_begins_16 (lv_at hl 4 rfl) ?_
  refine rm_puti hx hb hts inM hown hK hB 28 (Nat.le_of_ble_eq_true rfl) qf_206 (ms_28 _ _ _) rfl pd_28 rfl rfl dX8_begins_18 (fun σ4 eσ4 H locs hB => ?_)
  have hf := sq_e hf σ4 eσ4
  refine lv_aload_n hx hb dX8_begins_21 rfl (lv_at hl 0 rfl) ?_
  refine lv_iconst (v := 0) hx hb dX8_begins_22 (by decide) ?_
  refine rm_puti hx hb hts inM hown hK hB 29 (Nat.le_of_ble_eq_true rfl) qf_203 (ms_29 _ _ _) rfl pd_29 rfl rfl dX8_begins_23 (fun σ5 eσ5 H locs hB => ?_)
  have hf := sq_e hf σ5 eσ5
  refine lv_aload_n hx hb dX8_begins_26 rfl (lv_at hl 0 rfl) ?_
  refine lv_aload_n hx hb dX8_begins_27 rfl (lv_at hl 0 rfl) ?_
  refine rm_get hx hb hts inM hown hK hB 12 (Nat.le_of_ble_eq_true rfl) qf_37 rfl dX8_begins_28 ?_
  refine rm_puti hx hb hts inM hown hK hB 30 (Nat.le_of_ble_eq_true rfl) qf_194 (ms_30 _ _ _) rfl pd_30 rfl rfl dX8_begins_31 (fun σ6 eσ6 H locs hB => ?_)
  have hf := sq_e hf σ6 eσ6
  refine lv_aload_n hx hb dX8_begins_34 rfl (lv_at hl 0 rfl) ?_
  refine lv_iconst (v := (-1)) hx hb dX8_begins_35 (by decide) ?_
  refine rm_puti hx hb hts inM hown hK hB 31 (Nat.le_of_ble_eq_true rfl) qf_209 (ms_31 _ _ _) rfl pd_31 rfl rfl dX8_begins_36 (fun σ7 eσ7 H locs hB => ?_)
  have hf := sq_e hf σ7 eσ7
  obtain ⟨rfl, rfl⟩ := so_e hf
  exact rm_vret hx hb hr hlocks hK hB dX8_begins_39
theorem cm_begins (l : Launch) (D : va_G) (ad : Nat → Nat) (cy : ClassId) (n : Nat) (σ : MS) (x1 : Int32) (x2 : Int32) (x3 : Int32) (x4 : Int32) {r0 : Int32} {σ0 : MS} (hf : fm_begins n σ x1 x2 x3 x4 = some (r0, σ0)) : mMv l yX8_begins wn_begins rm_begins D ad cy [.ref (ad 0), .int x1, .int x2, .int x3, .int x4] σ σ0 :=
  rm_metv (ret := none) (by decide) rfl (Nat.le_of_ble_eq_true rfl) (fun p e s m below meth c A ls hc hK hA hB hl => tbm_begins_0 hc hK hA n σ x1 x2 x3 x4 hB hl hf)
theorem kw_begins {R : Room} {s : State} {args : Array Value} (hts : ∀ w ∈ wsM, w.before args s = true) (hR : rm_begins.frames + 1 ≤ R.frames ∧ 8 + (5 + 11) + rm_begins.locals ≤ R.locals) : CallW R s args RX8 RX8 234 yX8_begins cX8_begins 5 none wn_begins rm_begins 0 0 4 := cwV 4 hts (gM_v qw_155 qw_156 qw_157 qw_37 qw_133) rfl rfl rfl (by decide +kernel) hR
/-! reckons -/
abbrev rm_reckons : Room := { frames := 3, cells := 0, slots := 0, locals := 78 }
abbrev wn_reckons : List Cond := .code yX8_reckons cX8_reckons 6 (some .int) :: wsM
def bm_reckons_172 (n : Nat) (K12 : MS → Int32 → Int32 → Int32 → Option (Int32 × MS)) (σ : MS) (x1 : Int32) (x2 : Int32) (x3 : Int32) : Option (Int32 × MS) := sq (mp σ 0 34 1) (fun σ1 => sq (x3 + 1 : Int32) (fun y2 => K12 σ1 x1 x2 y2))
set_option maxRecDepth 100000 in
set_option maxHeartbeats 4000000 in
theorem tbm_reckons_172 {p : Program} {l : Launch} {e : Env} {s : State} {m : MethodId} {args : Array Value} {below : List Frame} {meth : Method} {c : Code} {D : va_G} {A : Nat → Prop} {ad : Nat → Nat} {cy : ClassId} {r0 : Int32} {σ0 : MS} (hc : cxB RX8 wsM cX8_reckons 6 (some .int) p s m args meth c) (hK : va_K D vwCl [(cy, .int)] s) (hA : ∀ q, s.heap.size ≤ q → A q) (n : Nat) (K12 : MS → Int32 → Int32 → Int32 → Option (Int32 × MS)) (hK12 : ∀ (σ : MS) (x1 : Int32) (x2 : Int32) (x3 : Int32) (H : Heap) (locs : List Loc) (ls : Array Slot), mB D ad cy A s.heap σ H locs → lv_has ls 6 [(0, .ref (ad 0)), (1, .int x1), (2, .int x2), (3, .int x3)] → K12 σ x1 x2 x3 = some (r0, σ0) → W p l e rm_reckons s m args below meth c H locs 0 0 (MQ below (mQi D ad cy A r0 σ0) args s 0 0 A) (F0 m 12 ls [])) (σ : MS) (x1 : Int32) (x2 : Int32) (x3 : Int32) {H : Heap} {locs : List Loc} {ls : Array Slot} (hB : mB D ad cy A s.heap σ H locs) (hl : lv_has ls 6 [(0, .ref (ad 0)), (1, .int x1), (2, .int x2), (3, .int x3)]) (hf : bm_reckons_172 n K12 σ x1 x2 x3 = some (r0, σ0)) : W p l e rm_reckons s m args below meth c H locs 0 0 (MQ below (mQi D ad cy A r0 σ0) args s 0 0 A) (F0 m 172 ls [.ref (ad 0)]) := by
  obtain ⟨hx, hb, hml, hown, hts, hr, hlocks⟩ := id hc
  unfold bm_reckons_172 at hf
  refine lv_iconst (v := 1) hx hb dX8_reckons_172 (by decide) ?_
  refine lv_goto (tgt := 177) hx hb dX8_reckons_173 (by decide) ?_
  refine rm_puti hx hb hts inM hown hK hB 34 (Nat.le_of_ble_eq_true rfl) qf_212 (ms_34 _ _ _) rfl pd_34 rfl rfl dX8_reckons_177 (fun σ1 eσ1 H locs hB => ?_)
  have hf := sq_e hf σ1 eσ1
  obtain ⟨y2, ey2⟩ : ∃ z : Int32, z = x3 + 1 := ⟨_, rfl⟩
  have hf := sq_e hf y2 ey2
  refine lv_iinc (v := y2) (lv' := [(3, .int y2), (0, .ref (ad 0)), (1, .int x1), (2, .int x2)]) hx hb dX8_reckons_180 hl (k := 3) rfl (by rw [ey2]; rfl) (by decide) rfl (fun ls hl => ?_)
  refine lv_goto (tgt := 12) hx hb dX8_reckons_183 (by decide) ?_
  exact hK12 σ1 x1 x2 y2 _ _ _ hB (lv_sub hl [1, 2, 3, 0] rfl) hf
def bm_reckons_129 (n : Nat) (K12 : MS → Int32 → Int32 → Int32 → Option (Int32 × MS)) (σ : MS) (x1 : Int32) (x2 : Int32) (x3 : Int32) (x4 : Int32) (t0 : Int32) : Option (Int32 × MS) := ck (ib x3 9) (sq (mp σ 18 (Int32.toNatClampNeg x3) t0) (fun σ2 => sq ((x2 - t0) : Int32) (fun y3 => if ((σ2.1 0 34) = 0) then (if (x4 = 0) then (ck (ib x3 9) (sq ((σ2.1 10 (Int32.toNatClampNeg x3)) : Int32) (fun y9 => if (y9 = 3) then (if (t0 ≤ 0) then (sq (mp σ2 0 34 0) (fun σ14 => sq (x3 + 1 : Int32) (fun y15 => K12 σ14 x1 y3 y15))) else (bm_reckons_172 n K12 σ2 x1 y3 x3)) else (sq (mp σ2 0 34 0) (fun σ11 => sq (x3 + 1 : Int32) (fun y12 => K12 σ11 x1 y3 y12)))))) else (sq (mp σ2 0 34 0) (fun σ6 => sq (x3 + 1 : Int32) (fun y7 => K12 σ6 x1 y3 y7)))) else (bm_reckons_172 n K12 σ2 x1 y3 x3))))
set_option maxRecDepth 100000 in
set_option maxHeartbeats 4000000 in
theorem tbm_reckons_129 {p : Program} {l : Launch} {e : Env} {s : State} {m : MethodId} {args : Array Value} {below : List Frame} {meth : Method} {c : Code} {D : va_G} {A : Nat → Prop} {ad : Nat → Nat} {cy : ClassId} {r0 : Int32} {σ0 : MS} (hc : cxB RX8 wsM cX8_reckons 6 (some .int) p s m args meth c) (hK : va_K D vwCl [(cy, .int)] s) (hA : ∀ q, s.heap.size ≤ q → A q) (n : Nat) (K12 : MS → Int32 → Int32 → Int32 → Option (Int32 × MS)) (hK12 : ∀ (σ : MS) (x1 : Int32) (x2 : Int32) (x3 : Int32) (H : Heap) (locs : List Loc) (ls : Array Slot), mB D ad cy A s.heap σ H locs → lv_has ls 6 [(0, .ref (ad 0)), (1, .int x1), (2, .int x2), (3, .int x3)] → K12 σ x1 x2 x3 = some (r0, σ0) → W p l e rm_reckons s m args below meth c H locs 0 0 (MQ below (mQi D ad cy A r0 σ0) args s 0 0 A) (F0 m 12 ls [])) (σ : MS) (x1 : Int32) (x2 : Int32) (x3 : Int32) (x4 : Int32) (t0 : Int32) {H : Heap} {locs : List Loc} {ls : Array Slot} (hB : mB D ad cy A s.heap σ H locs) (hl : lv_has ls 6 [(0, .ref (ad 0)), (1, .int x1), (2, .int x2), (3, .int x3), (4, .int x4)]) (hf : bm_reckons_129 n K12 σ x1 x2 x3 x4 t0 = some (r0, σ0)) : W p l e rm_reckons s m args below meth c H locs 0 0 (MQ below (mQi D ad cy A r0 σ0) args s 0 0 A) (F0 m 129 ls [.int t0]) := by
  obtain ⟨hx, hb, hml, hown, hts, hr, hlocks⟩ := id hc
  unfold bm_reckons_129 at hf
  refine lv_istore (lv' := [(5, .int t0), (0, .ref (ad 0)), (1, .int x1), (2, .int x2), (3, .int x3), (4, .int x4)]) hx hb dX8_reckons_129 hl (by decide) rfl (fun ls hl => ?_)
  refine lv_aload_n hx hb dX8_reckons_131 rfl (lv_at hl 1 rfl) ?_
  refine rm_get hx hb hts inM hown hK hB 33 (Nat.le_of_ble_eq_true rfl) qf_65 rfl dX8_reckons_132 ?_
  refine lv_iload_n hx hb dX8_reckons_135 rfl (lv_at hl 4 rfl) ?_
  refine lv_iload hx hb dX8_reckons_136 (lv_at hl 0 rfl) ?_
  obtain ⟨k1, hf⟩ := ck_e hf
  refine rm_ast hx hb hK hB 18 rfl (msa_18 _ _ _) k1 dX8_reckons_138 (fun σ2 eσ2 H locs hB => ?_)
  have hf := sq_e hf σ2 eσ2
  refine lv_iload_n hx hb dX8_reckons_139 rfl (lv_at hl 3 rfl) ?_
  refine lv_iload hx hb dX8_reckons_140 (lv_at hl 0 rfl) ?_
  refine lv_isub hx hb dX8_reckons_142 ?_
  refine lv_topi (fun y3 ey3 => ?_)
  have hf := sq_e hf y3 ey3
  refine lv_istore_n (lv' := [(2, .int y3), (5, .int t0), (0, .ref (ad 0)), (1, .int x1), (3, .int x3), (4, .int x4)]) hx hb dX8_reckons_143 rfl hl (by decide) rfl (fun ls hl => ?_)
  refine lv_aload_n hx hb dX8_reckons_144 rfl (lv_at hl 2 rfl) ?_
  refine lv_aload_n hx hb dX8_reckons_145 rfl (lv_at hl 2 rfl) ?_
  refine rm_get hx hb hts inM hown hK hB 34 (Nat.le_of_ble_eq_true rfl) qf_212 rfl dX8_reckons_146 ?_
  refine lv_if_ne (tgt := 172) hx hb dX8_reckons_149 (by decide) (fun c4 => ?_) (fun c4 => ?_)
  · have hf := it_f hf c4
    exact tbm_reckons_172 hc hK hA n K12 hK12 σ2 x1 y3 x3 hB (lv_sub hl [2, 3, 0, 4] rfl) hf
  · have hf := it_t hf c4
    refine lv_iload hx hb dX8_reckons_152 (lv_at hl 5 rfl) ?_
    refine lv_if_ne (tgt := 176) hx hb dX8_reckons_154 (by decide) (fun c5 => ?_) (fun c5 => ?_)
    · have hf := it_f hf c5
      refine lv_iconst (v := 0) hx hb dX8_reckons_176 (by decide) ?_
      refine rm_puti hx hb hts inM hown hK hB 34 (Nat.le_of_ble_eq_true rfl) qf_212 (ms_34 _ _ _) rfl pd_34 rfl rfl dX8_reckons_177 (fun σ6 eσ6 H locs hB => ?_)
      have hf := sq_e hf σ6 eσ6
      obtain ⟨y7, ey7⟩ : ∃ z : Int32, z = x3 + 1 := ⟨_, rfl⟩
      have hf := sq_e hf y7 ey7
      refine lv_iinc (v := y7) (lv' := [(3, .int y7), (2, .int y3), (5, .int t0), (0, .ref (ad 0)), (1, .int x1), (4, .int x4)]) hx hb dX8_reckons_180 hl (k := 4) rfl (by rw [ey7]; rfl) (by decide) rfl (fun ls hl => ?_)
      refine lv_goto (tgt := 12) hx hb dX8_reckons_183 (by decide) ?_
      exact hK12 σ6 x1 y3 y7 _ _ _ hB (lv_sub hl [3, 4, 1, 0] rfl) hf
    · have hf := it_t hf c5
      refine lv_aload_n hx hb dX8_reckons_157 rfl (lv_at hl 2 rfl) ?_
      refine rm_get hx hb hts inM hown hK hB 13 (Nat.le_of_ble_eq_true rfl) qf_41 rfl dX8_reckons_158 ?_
      refine lv_iload_n hx hb dX8_reckons_161 rfl (lv_at hl 4 rfl) ?_
      obtain ⟨k8, hf⟩ := ck_e hf
      refine rm_ald hx hb hK hB 10 rfl k8 dX8_reckons_162 ?_
      refine lv_topi (fun y9 ey9 => ?_)
      have hf := sq_e hf y9 ey9
      refine lv_iconst (v := 3) hx hb dX8_reckons_163 (by decide) ?_
      refine lv_icmp_ne (tgt := 176) hx hb dX8_reckons_164 (by decide) (fun c10 => ?_) (fun c10 => ?_)
      · have hf := it_f hf c10
        refine lv_iconst (v := 0) hx hb dX8_reckons_176 (by decide) ?_
        refine rm_puti hx hb hts inM hown hK hB 34 (Nat.le_of_ble_eq_true rfl) qf_212 (ms_34 _ _ _) rfl pd_34 rfl rfl dX8_reckons_177 (fun σ11 eσ11 H locs hB => ?_)
        have hf := sq_e hf σ11 eσ11
        obtain ⟨y12, ey12⟩ : ∃ z : Int32, z = x3 + 1 := ⟨_, rfl⟩
        have hf := sq_e hf y12 ey12
        refine lv_iinc (v := y12) (lv' := [(3, .int y12), (2, .int y3), (5, .int t0), (0, .ref (ad 0)), (1, .int x1), (4, .int x4)]) hx hb dX8_reckons_180 hl (k := 4) rfl (by rw [ey12]; rfl) (by decide) rfl (fun ls hl => ?_)
        refine lv_goto (tgt := 12) hx hb dX8_reckons_183 (by decide) ?_
        exact hK12 σ11 x1 y3 y12 _ _ _ hB (lv_sub hl [3, 4, 1, 0] rfl) hf
      · have hf := it_t hf c10
        refine lv_iload hx hb dX8_reckons_167 (lv_at hl 1 rfl) ?_
        refine lv_if_le (tgt := 176) hx hb dX8_reckons_169 (by decide) (fun c13 => ?_) (fun c13 => ?_)
        · have hf := it_t hf c13
          refine lv_iconst (v := 0) hx hb dX8_reckons_176 (by decide) ?_
          refine rm_puti hx hb hts inM hown hK hB 34 (Nat.le_of_ble_eq_true rfl) qf_212 (ms_34 _ _ _) rfl pd_34 rfl rfl dX8_reckons_177 (fun σ14 eσ14 H locs hB => ?_)
          have hf := sq_e hf σ14 eσ14
          obtain ⟨y15, ey15⟩ : ∃ z : Int32, z = x3 + 1 := ⟨_, rfl⟩
          have hf := sq_e hf y15 ey15
          refine lv_iinc (v := y15) (lv' := [(3, .int y15), (2, .int y3), (5, .int t0), (0, .ref (ad 0)), (1, .int x1), (4, .int x4)]) hx hb dX8_reckons_180 hl (k := 4) rfl (by rw [ey15]; rfl) (by decide) rfl (fun ls hl => ?_)
          refine lv_goto (tgt := 12) hx hb dX8_reckons_183 (by decide) ?_
          exact hK12 σ14 x1 y3 y15 _ _ _ hB (lv_sub hl [3, 4, 1, 0] rfl) hf
        · have hf := it_f hf c13
          exact tbm_reckons_172 hc hK hA n K12 hK12 σ2 x1 y3 x3 hB (lv_sub hl [2, 3, 0, 4] rfl) hf
def bm_reckons_109 (n : Nat) (K12 : MS → Int32 → Int32 → Int32 → Option (Int32 × MS)) (σ : MS) (x1 : Int32) (x2 : Int32) (x3 : Int32) (x4 : Int32) (t0 : Int32) : Option (Int32 × MS) := sq ((t0 * x1) : Int32) (fun y1 => if (y1 ≤ x2) then (bm_reckons_129 n K12 σ x1 x2 x3 x4 y1) else (bm_reckons_129 n K12 σ x1 x2 x3 x4 x2))
set_option maxRecDepth 100000 in
set_option maxHeartbeats 4000000 in
theorem tbm_reckons_109 {p : Program} {l : Launch} {e : Env} {s : State} {m : MethodId} {args : Array Value} {below : List Frame} {meth : Method} {c : Code} {D : va_G} {A : Nat → Prop} {ad : Nat → Nat} {cy : ClassId} {r0 : Int32} {σ0 : MS} (hc : cxB RX8 wsM cX8_reckons 6 (some .int) p s m args meth c) (hK : va_K D vwCl [(cy, .int)] s) (hA : ∀ q, s.heap.size ≤ q → A q) (n : Nat) (K12 : MS → Int32 → Int32 → Int32 → Option (Int32 × MS)) (hK12 : ∀ (σ : MS) (x1 : Int32) (x2 : Int32) (x3 : Int32) (H : Heap) (locs : List Loc) (ls : Array Slot), mB D ad cy A s.heap σ H locs → lv_has ls 6 [(0, .ref (ad 0)), (1, .int x1), (2, .int x2), (3, .int x3)] → K12 σ x1 x2 x3 = some (r0, σ0) → W p l e rm_reckons s m args below meth c H locs 0 0 (MQ below (mQi D ad cy A r0 σ0) args s 0 0 A) (F0 m 12 ls [])) (σ : MS) (x1 : Int32) (x2 : Int32) (x3 : Int32) (x4 : Int32) (t0 : Int32) {H : Heap} {locs : List Loc} {ls : Array Slot} (hB : mB D ad cy A s.heap σ H locs) (hl : lv_has ls 6 [(0, .ref (ad 0)), (1, .int x1), (2, .int x2), (3, .int x3), (4, .int x4)]) (hf : bm_reckons_109 n K12 σ x1 x2 x3 x4 t0 = some (r0, σ0)) : W p l e rm_reckons s m args below meth c H locs 0 0 (MQ below (mQi D ad cy A r0 σ0) args s 0 0 A) (F0 m 109 ls [.int t0]) := by
  obtain ⟨hx, hb, hml, hown, hts, hr, hlocks⟩ := id hc
  unfold bm_reckons_109 at hf
  refine lv_istore (lv' := [(5, .int t0), (0, .ref (ad 0)), (1, .int x1), (2, .int x2), (3, .int x3), (4, .int x4)]) hx hb dX8_reckons_109 hl (by decide) rfl (fun ls hl => ?_)
  refine lv_iload hx hb dX8_reckons_111 (lv_at hl 0 rfl) ?_
  refine lv_iload_n hx hb dX8_reckons_113 rfl (lv_at hl 2 rfl) ?_
  refine lv_imul hx hb dX8_reckons_114 ?_
  refine lv_topi (fun y1 ey1 => ?_)
  have hf := sq_e hf y1 ey1
  refine lv_istore (lv' := [(5, .int y1), (0, .ref (ad 0)), (1, .int x1), (2, .int x2), (3, .int x3), (4, .int x4)]) hx hb dX8_reckons_115 hl (by decide) rfl (fun ls hl => ?_)
  refine lv_iload hx hb dX8_reckons_117 (lv_at hl 0 rfl) ?_
  refine lv_iload_n hx hb dX8_reckons_119 rfl (lv_at hl 3 rfl) ?_
  refine lv_icmp_le (tgt := 127) hx hb dX8_reckons_120 (by decide) (fun c2 => ?_) (fun c2 => ?_)
  · have hf := it_t hf c2
    refine lv_iload hx hb dX8_reckons_127 (lv_at hl 0 rfl) ?_
    exact tbm_reckons_129 hc hK hA n K12 hK12 σ x1 x2 x3 x4 y1 hB (lv_sub hl [1, 2, 3, 4, 5] rfl) hf
  · have hf := it_f hf c2
    refine lv_iload_n hx hb dX8_reckons_123 rfl (lv_at hl 3 rfl) ?_
    refine lv_goto (tgt := 129) hx hb dX8_reckons_124 (by decide) ?_
    exact tbm_reckons_129 hc hK hA n K12 hK12 σ x1 x2 x3 x4 x2 hB (lv_sub hl [1, 2, 3, 4, 5] rfl) hf
def bm_reckons_33 (n : Nat) (K12 : MS → Int32 → Int32 → Int32 → Option (Int32 × MS)) (σ : MS) (x1 : Int32) (x2 : Int32) (x3 : Int32) (t0 : Int32) : Option (Int32 × MS) := if (t0 = 0) then (if ((((σ.1 0 28) >>> (x3 &&& 31)) &&& 1) = 0) then (bm_reckons_109 n K12 σ x1 x2 x3 t0 0) else (ck (ib x3 9) (sq ((σ.1 10 (Int32.toNatClampNeg x3)) : Int32) (fun y4 => ck (ib x3 9) (sq ((σ.1 11 (Int32.toNatClampNeg x3)) : Int32) (fun y6 => ck (ib x3 9) (sq ((σ.1 12 (Int32.toNatClampNeg x3)) : Int32) (fun y8 => bd (fm_takeOf n σ x3 y4 y6 y8) (fun r9 σ10 => bm_reckons_109 n K12 σ10 x1 x2 x3 t0 r9))))))))) else (if (0 ≤ (σ.1 0 31)) then (bd (fm_takeOf n σ (σ.1 0 31) 6 (σ.1 0 32) 9999) (fun r12 σ13 => bm_reckons_109 n K12 σ13 x1 x2 x3 t0 r12)) else (bm_reckons_109 n K12 σ x1 x2 x3 t0 0))
set_option maxRecDepth 100000 in
set_option maxHeartbeats 4000000 in
theorem tbm_reckons_33 {p : Program} {l : Launch} {e : Env} {s : State} {m : MethodId} {args : Array Value} {below : List Frame} {meth : Method} {c : Code} {D : va_G} {A : Nat → Prop} {ad : Nat → Nat} {cy : ClassId} {r0 : Int32} {σ0 : MS} (hc : cxB RX8 wsM cX8_reckons 6 (some .int) p s m args meth c) (hK : va_K D vwCl [(cy, .int)] s) (hA : ∀ q, s.heap.size ≤ q → A q) (n : Nat) (K12 : MS → Int32 → Int32 → Int32 → Option (Int32 × MS)) (hK12 : ∀ (σ : MS) (x1 : Int32) (x2 : Int32) (x3 : Int32) (H : Heap) (locs : List Loc) (ls : Array Slot), mB D ad cy A s.heap σ H locs → lv_has ls 6 [(0, .ref (ad 0)), (1, .int x1), (2, .int x2), (3, .int x3)] → K12 σ x1 x2 x3 = some (r0, σ0) → W p l e rm_reckons s m args below meth c H locs 0 0 (MQ below (mQi D ad cy A r0 σ0) args s 0 0 A) (F0 m 12 ls [])) (σ : MS) (x1 : Int32) (x2 : Int32) (x3 : Int32) (t0 : Int32) {H : Heap} {locs : List Loc} {ls : Array Slot} (hB : mB D ad cy A s.heap σ H locs) (hl : lv_has ls 6 [(0, .ref (ad 0)), (1, .int x1), (2, .int x2), (3, .int x3)]) (hf : bm_reckons_33 n K12 σ x1 x2 x3 t0 = some (r0, σ0)) : W p l e rm_reckons s m args below meth c H locs 0 0 (MQ below (mQi D ad cy A r0 σ0) args s 0 0 A) (F0 m 33 ls [.int t0]) := by
  obtain ⟨hx, hb, hml, hown, hts, hr, hlocks⟩ := id hc
  unfold bm_reckons_33 at hf
  refine lv_istore (lv' := [(4, .int t0), (0, .ref (ad 0)), (1, .int x1), (2, .int x2), (3, .int x3)]) hx hb dX8_reckons_33 hl (by decide) rfl (fun ls hl => ?_)
  refine lv_iload hx hb dX8_reckons_35 (lv_at hl 0 rfl) ?_
  refine lv_if_eq (tgt := 71) hx hb dX8_reckons_37 (by decide) (fun c1 => ?_) (fun c1 => ?_)
  · have hf := it_t hf c1
    refine lv_aload_n hx hb dX8_reckons_71 rfl (lv_at hl 1 rfl) ?_
    refine rm_get hx hb hts inM hown hK hB 28 (Nat.le_of_ble_eq_true rfl) qf_206 rfl dX8_reckons_72 ?_
    refine lv_iload_n hx hb dX8_reckons_75 rfl (lv_at hl 4 rfl) ?_
    refine lv_ishr hx hb dX8_reckons_76 ?_
    refine lv_iconst (v := 1) hx hb dX8_reckons_77 (by decide) ?_
    refine lv_iand hx hb dX8_reckons_78 ?_
    refine lv_if_ne (tgt := 86) hx hb dX8_reckons_79 (by decide) (fun c2 => ?_) (fun c2 => ?_)
    · have hf := it_f hf c2
      refine lv_aload_n hx hb dX8_reckons_86 rfl (lv_at hl 1 rfl) ?_
      refine lv_iload_n hx hb dX8_reckons_87 rfl (lv_at hl 4 rfl) ?_
      refine lv_aload_n hx hb dX8_reckons_88 rfl (lv_at hl 1 rfl) ?_
      refine rm_get hx hb hts inM hown hK hB 13 (Nat.le_of_ble_eq_true rfl) qf_41 rfl dX8_reckons_89 ?_
      refine lv_iload_n hx hb dX8_reckons_92 rfl (lv_at hl 4 rfl) ?_
      obtain ⟨k3, hf⟩ := ck_e hf
      refine rm_ald hx hb hK hB 10 rfl k3 dX8_reckons_93 ?_
      refine lv_topi (fun y4 ey4 => ?_)
      have hf := sq_e hf y4 ey4
      refine lv_aload_n hx hb dX8_reckons_94 rfl (lv_at hl 1 rfl) ?_
      refine rm_get hx hb hts inM hown hK hB 14 (Nat.le_of_ble_eq_true rfl) qf_44 rfl dX8_reckons_95 ?_
      refine lv_iload_n hx hb dX8_reckons_98 rfl (lv_at hl 4 rfl) ?_
      obtain ⟨k5, hf⟩ := ck_e hf
      refine rm_ald hx hb hK hB 11 rfl k5 dX8_reckons_99 ?_
      refine lv_topi (fun y6 ey6 => ?_)
      have hf := sq_e hf y6 ey6
      refine lv_aload_n hx hb dX8_reckons_100 rfl (lv_at hl 1 rfl) ?_
      refine rm_get hx hb hts inM hown hK hB 15 (Nat.le_of_ble_eq_true rfl) qf_47 rfl dX8_reckons_101 ?_
      refine lv_iload_n hx hb dX8_reckons_104 rfl (lv_at hl 4 rfl) ?_
      obtain ⟨k7, hf⟩ := ck_e hf
      refine rm_ald hx hb hK hB 12 rfl k7 dX8_reckons_105 ?_
      refine lv_topi (fun y8 ey8 => ?_)
      have hf := sq_e hf y8 ey8
      obtain ⟨r9, σ10, hkr9, hf⟩ := bd_e hf
      refine rm_calliV (av := [.int x3, .int y4, .int y6, .int y8]) (rest := []) hx hb hml hown hts hl.1 hK hA hB (cm_takeOf l D ad cy n σ x3 y4 y6 y8 hkr9) (kw_takeOf hts ⟨Nat.le_of_ble_eq_true rfl, Nat.le_of_ble_eq_true rfl⟩) rfl rfl (lv_room (Nat.le_of_ble_eq_true rfl)) dX8_reckons_106 (Nat.le_refl _) (Nat.le_refl _) (fun H locs hB => ?_)
      exact tbm_reckons_109 hc hK hA n K12 hK12 σ10 x1 x2 x3 t0 r9 hB (lv_sub hl [1, 2, 3, 4, 0] rfl) hf
    · have hf := it_t hf c2
      refine lv_iconst (v := 0) hx hb dX8_reckons_82 (by decide) ?_
      refine lv_goto (tgt := 109) hx hb dX8_reckons_83 (by decide) ?_
      exact tbm_reckons_109 hc hK hA n K12 hK12 σ x1 x2 x3 t0 0 hB (lv_sub hl [1, 2, 3, 4, 0] rfl) hf
  · have hf := it_f hf c1
    refine lv_aload_n hx hb dX8_reckons_40 rfl (lv_at hl 1 rfl) ?_
    refine rm_get hx hb hts inM hown hK hB 31 (Nat.le_of_ble_eq_true rfl) qf_209 rfl dX8_reckons_41 ?_
    refine lv_if_ge (tgt := 51) hx hb dX8_reckons_44 (by decide) (fun c11 => ?_) (fun c11 => ?_)
    · have hf := it_t hf c11
      refine lv_aload_n hx hb dX8_reckons_51 rfl (lv_at hl 1 rfl) ?_
      refine lv_aload_n hx hb dX8_reckons_52 rfl (lv_at hl 1 rfl) ?_
      refine rm_get hx hb hts inM hown hK hB 31 (Nat.le_of_ble_eq_true rfl) qf_209 rfl dX8_reckons_53 ?_
      refine lv_bipush (v := 6) hx hb dX8_reckons_56 (by decide) ?_
      refine lv_aload_n hx hb dX8_reckons_58 rfl (lv_at hl 1 rfl) ?_
      refine rm_get hx hb hts inM hown hK hB 32 (Nat.le_of_ble_eq_true rfl) qf_216 rfl dX8_reckons_59 ?_
      refine lv_sipush (v := 9999) hx hb dX8_reckons_62 (by decide) ?_
      obtain ⟨r12, σ13, hkr12, hf⟩ := bd_e hf
      refine rm_calliV (av := [.int (σ.1 0 31), .int 6, .int (σ.1 0 32), .int 9999]) (rest := []) hx hb hml hown hts hl.1 hK hA hB (cm_takeOf l D ad cy n σ (σ.1 0 31) 6 (σ.1 0 32) 9999 hkr12) (kw_takeOf hts ⟨Nat.le_of_ble_eq_true rfl, Nat.le_of_ble_eq_true rfl⟩) rfl rfl (lv_room (Nat.le_of_ble_eq_true rfl)) dX8_reckons_65 (Nat.le_refl _) (Nat.le_refl _) (fun H locs hB => ?_)
      refine lv_goto (tgt := 109) hx hb dX8_reckons_68 (by decide) ?_
      exact tbm_reckons_109 hc hK hA n K12 hK12 σ13 x1 x2 x3 t0 r12 hB (lv_sub hl [1, 2, 3, 4, 0] rfl) hf
    · have hf := it_f hf c11
      refine lv_iconst (v := 0) hx hb dX8_reckons_47 (by decide) ?_
      refine lv_goto (tgt := 109) hx hb dX8_reckons_48 (by decide) ?_
      exact tbm_reckons_109 hc hK hA n K12 hK12 σ x1 x2 x3 t0 0 hB (lv_sub hl [1, 2, 3, 4, 0] rfl) hf
def bm_reckons_12 (n : Nat) (K12 : MS → Int32 → Int32 → Int32 → Option (Int32 × MS)) (σ : MS) (x1 : Int32) (x2 : Int32) (x3 : Int32) : Option (Int32 × MS) := if ((σ.1 0 21) < x3) then (some (((σ.1 0 26) - x2), σ)) else (if (x3 = (σ.1 0 21)) then (bm_reckons_33 n K12 σ x1 x2 x3 1) else (bm_reckons_33 n K12 σ x1 x2 x3 0))
set_option maxRecDepth 100000 in
set_option maxHeartbeats 4000000 in
theorem tbm_reckons_12 {p : Program} {l : Launch} {e : Env} {s : State} {m : MethodId} {args : Array Value} {below : List Frame} {meth : Method} {c : Code} {D : va_G} {A : Nat → Prop} {ad : Nat → Nat} {cy : ClassId} {r0 : Int32} {σ0 : MS} (hc : cxB RX8 wsM cX8_reckons 6 (some .int) p s m args meth c) (hK : va_K D vwCl [(cy, .int)] s) (hA : ∀ q, s.heap.size ≤ q → A q) (n : Nat) (K12 : MS → Int32 → Int32 → Int32 → Option (Int32 × MS)) (hK12 : ∀ (σ : MS) (x1 : Int32) (x2 : Int32) (x3 : Int32) (H : Heap) (locs : List Loc) (ls : Array Slot), mB D ad cy A s.heap σ H locs → lv_has ls 6 [(0, .ref (ad 0)), (1, .int x1), (2, .int x2), (3, .int x3)] → K12 σ x1 x2 x3 = some (r0, σ0) → W p l e rm_reckons s m args below meth c H locs 0 0 (MQ below (mQi D ad cy A r0 σ0) args s 0 0 A) (F0 m 12 ls [])) (σ : MS) (x1 : Int32) (x2 : Int32) (x3 : Int32) {H : Heap} {locs : List Loc} {ls : Array Slot} (hB : mB D ad cy A s.heap σ H locs) (hl : lv_has ls 6 [(0, .ref (ad 0)), (1, .int x1), (2, .int x2), (3, .int x3)]) (hf : bm_reckons_12 n K12 σ x1 x2 x3 = some (r0, σ0)) : W p l e rm_reckons s m args below meth c H locs 0 0 (MQ below (mQi D ad cy A r0 σ0) args s 0 0 A) (F0 m 12 ls []) := by
  obtain ⟨hx, hb, hml, hown, hts, hr, hlocks⟩ := id hc
  unfold bm_reckons_12 at hf
  refine lv_iload_n hx hb dX8_reckons_12 rfl (lv_at hl 3 rfl) ?_
  refine lv_aload_n hx hb dX8_reckons_13 rfl (lv_at hl 0 rfl) ?_
  refine rm_get hx hb hts inM hown hK hB 21 (Nat.le_of_ble_eq_true rfl) qf_155 rfl dX8_reckons_14 ?_
  refine lv_icmp_gt (tgt := 186) hx hb dX8_reckons_17 (by decide) (fun c1 => ?_) (fun c1 => ?_)
  · have hf := it_t hf c1
    refine lv_aload_n hx hb dX8_reckons_186 rfl (lv_at hl 0 rfl) ?_
    refine rm_get hx hb hts inM hown hK hB 26 (Nat.le_of_ble_eq_true rfl) qf_187 rfl dX8_reckons_187 ?_
    refine lv_iload_n hx hb dX8_reckons_190 rfl (lv_at hl 2 rfl) ?_
    refine lv_isub hx hb dX8_reckons_191 ?_
    obtain ⟨rfl, rfl⟩ := so_e hf
    exact rm_iret hx hb hr hlocks hK hB dX8_reckons_192
  · have hf := it_f hf c1
    refine lv_iload_n hx hb dX8_reckons_20 rfl (lv_at hl 3 rfl) ?_
    refine lv_aload_n hx hb dX8_reckons_21 rfl (lv_at hl 0 rfl) ?_
    refine rm_get hx hb hts inM hown hK hB 21 (Nat.le_of_ble_eq_true rfl) qf_155 rfl dX8_reckons_22 ?_
    refine lv_icmp_ne (tgt := 32) hx hb dX8_reckons_25 (by decide) (fun c2 => ?_) (fun c2 => ?_)
    · have hf := it_f hf c2
      refine lv_iconst (v := 0) hx hb dX8_reckons_32 (by decide) ?_
      exact tbm_reckons_33 hc hK hA n K12 hK12 σ x1 x2 x3 0 hB (lv_sub hl [0, 1, 2, 3] rfl) hf
    · have hf := it_t hf c2
      refine lv_iconst (v := 1) hx hb dX8_reckons_28 (by decide) ?_
      refine lv_goto (tgt := 33) hx hb dX8_reckons_29 (by decide) ?_
      exact tbm_reckons_33 hc hK hA n K12 hK12 σ x1 x2 x3 1 hB (lv_sub hl [0, 1, 2, 3] rfl) hf
def lm_reckons_12 (n : Nat) : Nat → MS → Int32 → Int32 → Int32 → Option (Int32 × MS)
  | 0 => fun _ _ _ _ => none
  | k + 1 => bm_reckons_12 n (lm_reckons_12 n k)
theorem tlm_reckons_12 {p : Program} {l : Launch} {e : Env} {s : State} {m : MethodId} {args : Array Value} {below : List Frame} {meth : Method} {c : Code} {D : va_G} {A : Nat → Prop} {ad : Nat → Nat} {cy : ClassId} {r0 : Int32} {σ0 : MS} (hc : cxB RX8 wsM cX8_reckons 6 (some .int) p s m args meth c) (hK : va_K D vwCl [(cy, .int)] s) (hA : ∀ q, s.heap.size ≤ q → A q) (n : Nat) : ∀ (k : Nat) (σ : MS) (x1 : Int32) (x2 : Int32) (x3 : Int32) (H : Heap) (locs : List Loc) (ls : Array Slot), mB D ad cy A s.heap σ H locs → lv_has ls 6 [(0, .ref (ad 0)), (1, .int x1), (2, .int x2), (3, .int x3)] → lm_reckons_12 n k σ x1 x2 x3 = some (r0, σ0) → W p l e rm_reckons s m args below meth c H locs 0 0 (MQ below (mQi D ad cy A r0 σ0) args s 0 0 A) (F0 m 12 ls []) := by
  intro k
  induction k with
  | zero =>
    intro σ x1 x2 x3 H locs ls hB hl hf
    have hf : (none : Option (Int32 × MS)) = some (r0, σ0) := hf
    cases hf
  | succ k ih =>
    intro σ x1 x2 x3 H locs ls hB hl hf
    exact tbm_reckons_12 hc hK hA n (lm_reckons_12 n k) ih σ x1 x2 x3 hB hl hf
def fm_reckons (n : Nat) (σ : MS) (x1 : Int32) : Option (Int32 × MS) := sq ((σ.1 0 26) : Int32) (fun y1 => sq (mp σ 0 34 0) (fun σ2 => sq (0 : Int32) (fun y3 => lm_reckons_12 n n σ2 x1 y1 y3)))
set_option maxRecDepth 100000 in
set_option maxHeartbeats 4000000 in
theorem tbm_reckons_0 {p : Program} {l : Launch} {e : Env} {s : State} {m : MethodId} {args : Array Value} {below : List Frame} {meth : Method} {c : Code} {D : va_G} {A : Nat → Prop} {ad : Nat → Nat} {cy : ClassId} {r0 : Int32} {σ0 : MS} (hc : cxB RX8 wsM cX8_reckons 6 (some .int) p s m args meth c) (hK : va_K D vwCl [(cy, .int)] s) (hA : ∀ q, s.heap.size ≤ q → A q) (n : Nat) (σ : MS) (x1 : Int32) {H : Heap} {locs : List Loc} {ls : Array Slot} (hB : mB D ad cy A s.heap σ H locs) (hl : lv_has ls 6 [(0, .ref (ad 0)), (1, .int x1)]) (hf : fm_reckons n σ x1 = some (r0, σ0)) : W p l e rm_reckons s m args below meth c H locs 0 0 (MQ below (mQi D ad cy A r0 σ0) args s 0 0 A) (F0 m 0 ls []) := by
  obtain ⟨hx, hb, hml, hown, hts, hr, hlocks⟩ := id hc
  unfold fm_reckons at hf
  refine lv_aload_n hx hb dX8_reckons_0 rfl (lv_at hl 0 rfl) ?_
  refine rm_get hx hb hts inM hown hK hB 26 (Nat.le_of_ble_eq_true rfl) qf_187 rfl dX8_reckons_1 ?_
  refine lv_topi (fun y1 ey1 => ?_)
  have hf := sq_e hf y1 ey1
  refine lv_istore_n (lv' := [(2, .int y1), (0, .ref (ad 0)), (1, .int x1)]) hx hb dX8_reckons_4 rfl hl (by decide) rfl (fun ls hl => ?_)
  refine lv_aload_n hx hb dX8_reckons_5 rfl (lv_at hl 1 rfl) ?_
  refine lv_iconst (v := 0) hx hb dX8_reckons_6 (by decide) ?_
  refine rm_puti hx hb hts inM hown hK hB 34 (Nat.le_of_ble_eq_true rfl) qf_212 (ms_34 _ _ _) rfl pd_34 rfl rfl dX8_reckons_7 (fun σ2 eσ2 H locs hB => ?_)
  have hf := sq_e hf σ2 eσ2
  refine lv_iconst (v := 0) hx hb dX8_reckons_10 (by decide) ?_
  refine lv_topi (fun y3 ey3 => ?_)
  have hf := sq_e hf y3 ey3
  refine lv_istore_n (lv' := [(3, .int y3), (2, .int y1), (0, .ref (ad 0)), (1, .int x1)]) hx hb dX8_reckons_11 rfl hl (by decide) rfl (fun ls hl => ?_)
  exact tlm_reckons_12 hc hK hA n n σ2 x1 y1 y3 _ _ _ hB (lv_sub hl [2, 3, 1, 0] rfl) hf
theorem cm_reckons (l : Launch) (D : va_G) (ad : Nat → Nat) (cy : ClassId) (n : Nat) (σ : MS) (x1 : Int32) {r0 : Int32} {σ0 : MS} (hf : fm_reckons n σ x1 = some (r0, σ0)) : mMi l yX8_reckons wn_reckons rm_reckons D ad cy [.ref (ad 0), .int x1] σ r0 σ0 :=
  rm_meti (ret := (some .int)) (by decide) rfl (Nat.le_of_ble_eq_true rfl) (fun p e s m below meth c A ls hc hK hA hB hl => tbm_reckons_0 hc hK hA n σ x1 hB hl hf)
theorem kw_reckons {R : Room} {s : State} {args : Array Value} (hts : ∀ w ∈ wsM, w.before args s = true) (hR : rm_reckons.frames + 1 ≤ R.frames ∧ 8 + (6 + 11) + rm_reckons.locals ≤ R.locals) : CallW R s args RX8 RX8 222 yX8_reckons cX8_reckons 6 (some .int) wn_reckons rm_reckons 0 0 1 := cwV 1 hts (gM_v qw_142 qw_143 qw_144 qw_37 qw_141) rfl rfl rfl (by decide +kernel) hR
