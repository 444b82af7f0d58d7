def hard9 : Nat → Int32 := upd (upd (upd (upd (fun _ => 0) (Int32.toNatClampNeg 0) 9) (Int32.toNatClampNeg 1) 9) (Int32.toNatClampNeg 2) 9) (Int32.toNatClampNeg 3) 9
def gam0 : CS := (fun a => match a with | 5 => upd (fun _ => 0) 11 1 | 8 => hard9 | 18 => upd (fun _ => 0) 11 1 | 21 => hard9 | _ => fun _ => 0, fun _ => 0, fun _ _ => none, fun _ => 0, fun _ => 0, 34)
def mu0 : MS := (fun a => match a with | 0 => upd (fun _ => 0) 12 1 | 8 => hard9 | _ => fun _ => 0, fun _ => 0)
theorem x_list (cy : CY) (h0 q1 q2 q3 q4 q5 q6 q7 q8 q9 q10 q11 q12 q13 q14 q15 q16 q17 q18 q19 q20 q21 q22 q23 q24 q25 q26 q27 q28 q29 q30 q31 q32 q33 : Nat) : ([(h0, .inr (7, [.ref q1, .ref q4, .ref q5, .ref q18, .ref q31, .int 0])), (q1, .inr (6, [.ref q2, .ref q3, .int 0, .int 0, .int 0, .int 0])), (q2, .inl (cy.1, 20, .inl (fun _ => 0))), (q3, .inl (cy.1, 20, .inl (fun _ => 0))), (q4, .inl (cy.1, 7, .inl (fun _ => 0))), (q5, .inr (0, [.ref q6, .ref q7, .ref q8, .ref q9, .ref q10, .ref q11, .ref q12, .ref q16, .int 0, .int 0, .int 0, .int 1])), (q6, .inl (cy.2.2, 6, .inr (.inr (.inr (.inr (fun _ => none)))))), (q7, .inl (cy.2.1, 8, .inr (.inr (.inr (.inr (fun _ => none)))))), (q8, .inl (cy.1, 4, .inl (upd (upd (upd (upd (fun _ => 0) (Int32.toNatClampNeg 0) 9) (Int32.toNatClampNeg 1) 9) (Int32.toNatClampNeg 2) 9) (Int32.toNatClampNeg 3) 9))), (q9, .inl (cy.1, 4, .inl (fun _ => 0))), (q10, .inl (cy.1, 4, .inl (fun _ => 0))), (q11, .inl (cy.1, 4, .inl (fun _ => 0))), (q12, .inr (5, [.int 0, .int 0, .int 0, .int 0, .int 0, .int 0, .int 0, .int 0, .long 0, .int 0, .ref q13, .ref q14, .ref q15])), (q13, .inl (cy.1, 8, .inl (fun _ => 0))), (q14, .inl (cy.1, 100, .inl (fun _ => 0))), (q15, .inl (cy.1, 100, .inl (fun _ => 0))), (q16, .inr (4, [.ref q17, .int 0, .int 0])), (q17, .inl (cy.1, 24, .inl (fun _ => 0))), (q18, .inr (0, [.ref q19, .ref q20, .ref q21, .ref q22, .ref q23, .ref q24, .ref q25, .ref q29, .int 0, .int 0, .int 0, .int 1])), (q19, .inl (cy.2.2, 6, .inr (.inr (.inr (.inr (fun _ => none)))))), (q20, .inl (cy.2.1, 8, .inr (.inr (.inr (.inr (fun _ => none)))))), (q21, .inl (cy.1, 4, .inl (upd (upd (upd (upd (fun _ => 0) (Int32.toNatClampNeg 0) 9) (Int32.toNatClampNeg 1) 9) (Int32.toNatClampNeg 2) 9) (Int32.toNatClampNeg 3) 9))), (q22, .inl (cy.1, 4, .inl (fun _ => 0))), (q23, .inl (cy.1, 4, .inl (fun _ => 0))), (q24, .inl (cy.1, 4, .inl (fun _ => 0))), (q25, .inr (5, [.int 0, .int 0, .int 0, .int 0, .int 0, .int 0, .int 0, .int 0, .long 0, .int 0, .ref q26, .ref q27, .ref q28])), (q26, .inl (cy.1, 8, .inl (fun _ => 0))), (q27, .inl (cy.1, 100, .inl (fun _ => 0))), (q28, .inl (cy.1, 100, .inl (fun _ => 0))), (q29, .inr (4, [.ref q30, .int 0, .int 0])), (q30, .inl (cy.1, 24, .inl (fun _ => 0))), (q31, .inr (2, [.ref q5, .ref q32, .ref q33, .int 0, .int 0, .int 0, .int 0, .int 0, .int 0, .int 0, .int 0, .null, .int 0])), (q32, .inl (cy.1, 8, .inl (fun _ => 0))), (q33, .inl (cy.1, 8, .inl (fun _ => 0)))] : va_W) = cw (fun q => match q with | 0 => h0 | 1 => q1 | 2 => q2 | 3 => q3 | 4 => q4 | 5 => q5 | 6 => q6 | 7 => q7 | 8 => q8 | 9 => q9 | 10 => q10 | 11 => q11 | 12 => q12 | 13 => q13 | 14 => q14 | 15 => q15 | 16 => q16 | 17 => q17 | 18 => q18 | 19 => q19 | 20 => q20 | 21 => q21 | 22 => q22 | 23 => q23 | 24 => q24 | 25 => q25 | 26 => q26 | 27 => q27 | 28 => q28 | 29 => q29 | 30 => q30 | 31 => q31 | 32 => q32 | 33 => q33 | _ => 0) cy gam0 := rfl
theorem m_list (cy : CY) (h0 q1 q2 q3 q4 q5 q6 q7 q8 q9 q10 q11 q12 q13 q14 q15 q16 q17 q18 q19 q20 q21 q22 q23 q24 : Nat) : ([(h0, .inr (8, [.ref q1, .ref q2, .ref q3, .ref q4, .ref q5, .ref q6, .ref q7, .ref q8, .ref q9, .int 0, .int 0, .int 0, .int 1, .ref q10, .ref q11, .ref q12, .ref q13, .ref q14, .ref q15, .ref q16, .ref q17, .int 0, .int 0, .int 0, .int 0, .int 0, .int 0, .int 0, .int 0, .int 0, .int 0, .int 0, .int 0, .ref q18, .int 0, .int 0, .ref q19, .ref q20, .int 0, .int 0, .int 0, .int 0, .int 0, .int 0, .int 0, .int 0, .long 0, .ref q21, .int 0, .int 0, .ref q22, .ref q23, .int 0, .ref q24, .int 0, .int 0, .int 0, .long 0])), (q1, .inl (cy.1, 7, .inl (fun _ => 0))), (q2, .inl (cy.1, 20, .inl (fun _ => 0))), (q3, .inl (cy.1, 7, .inl (fun _ => 0))), (q4, .inl (cy.1, 7, .inl (fun _ => 0))), (q5, .inl (cy.1, 7, .inl (fun _ => 0))), (q6, .inl (cy.1, 7, .inl (fun _ => 0))), (q7, .inl (cy.1, 7, .inl (fun _ => 0))), (q8, .inl (cy.1, 4, .inl (upd (upd (upd (upd (fun _ => 0) (Int32.toNatClampNeg 0) 9) (Int32.toNatClampNeg 1) 9) (Int32.toNatClampNeg 2) 9) (Int32.toNatClampNeg 3) 9))), (q9, .inl (cy.1, 4, .inl (fun _ => 0))), (q10, .inl (cy.1, 9, .inl (fun _ => 0))), (q11, .inl (cy.1, 9, .inl (fun _ => 0))), (q12, .inl (cy.1, 9, .inl (fun _ => 0))), (q13, .inl (cy.1, 9, .inl (fun _ => 0))), (q14, .inl (cy.1, 300, .inl (fun _ => 0))), (q15, .inl (cy.1, 10, .inl (fun _ => 0))), (q16, .inl (cy.1, 24, .inl (fun _ => 0))), (q17, .inl (cy.1, 24, .inl (fun _ => 0))), (q18, .inl (cy.1, 9, .inl (fun _ => 0))), (q19, .inl (cy.1, 100, .inl (fun _ => 0))), (q20, .inl (cy.1, 100, .inl (fun _ => 0))), (q21, .inl (cy.1, 24, .inl (fun _ => 0))), (q22, .inl (cy.1, 4, .inl (fun _ => 0))), (q23, .inl (cy.1, 4, .inl (fun _ => 0))), (q24, .inl (cy.1, 800, .inl (fun _ => 0)))] : va_W) = mw (fun q => match q with | 0 => h0 | 1 => q1 | 2 => q2 | 3 => q3 | 4 => q4 | 5 => q5 | 6 => q6 | 7 => q7 | 8 => q8 | 9 => q9 | 10 => q10 | 11 => q11 | 12 => q12 | 13 => q13 | 14 => q14 | 15 => q15 | 16 => q16 | 17 => q17 | 18 => q18 | 19 => q19 | 20 => q20 | 21 => q21 | 22 => q22 | 23 => q23 | 24 => q24 | _ => 0) cy.1 mu0 := rfl
theorem x_made {cy : CY} {h0 : Nat} {w1 : va_W} (h : ip_X7_init cy h0 w1) : ∃ ad : Nat → Nat, ad 0 = h0 ∧ w1 = cw ad cy gam0 := by
  obtain ⟨q1, q2, q3, q4, q5, q6, q7, q8, q9, q10, q11, q12, q13, q14, q15, q16, q17, q18, q19, q20, q21, q22, q23, q24, q25, q26, q27, q28, q29, q30, q31, q32, q33, rfl⟩ := h
  exact ⟨_, rfl, x_list cy h0 q1 q2 q3 q4 q5 q6 q7 q8 q9 q10 q11 q12 q13 q14 q15 q16 q17 q18 q19 q20 q21 q22 q23 q24 q25 q26 q27 q28 q29 q30 q31 q32 q33⟩
theorem m_made {cy : CY} {h0 : Nat} {w1 : va_W} (h : ip_X8_init cy h0 w1) : ∃ am : Nat → Nat, am 0 = h0 ∧ w1 = mw am cy.1 mu0 := by
  obtain ⟨q1, q2, q3, q4, q5, q6, q7, q8, q9, q10, q11, q12, q13, q14, q15, q16, q17, q18, q19, q20, q21, q22, q23, q24, rfl⟩ := h
  exact ⟨_, rfl, m_list cy h0 q1 q2 q3 q4 q5 q6 q7 q8 q9 q10 q11 q12 q13 q14 q15 q16 q17 q18 q19 q20 q21 q22 q23 q24⟩
set_option maxRecDepth 100000 in
set_option maxHeartbeats 4000000 in
theorem law_facts {s : State} {b : Nat} (hts : ∀ w ∈ lw_tbl, w.before #[Value.ref b] s = true) (hgv : (Jvm.Cond.and given_1 narrow_1).before #[Value.ref b] s = true) : ∃ (D : va_G) (cy : CY) (z : CZ), va_K D vwCl (ctys cy) s ∧ cEn z (fun q => s.heap.size ≤ q) s s.heap ∧ iEn s := by
  have hs := flat_of_before _ hgv
  have hA : ∀ a : Nat, a < s.heap.size → ¬ (fun q : Nat => s.heap.size ≤ q) a := fun a h => Nat.not_le.mpr h
  obtain ⟨c0, iS0, hKn0⟩ := u_known (C := RX0) (T := TX0) (N := 12) (n := 12) hts inL_0 (hts (.instantiable RX0 12) qLx_ins0)
  obtain ⟨c1, iS1, hKn1⟩ := u_known (C := RX1) (T := TX1) (N := 5) (n := 5) hts inL_1 (hts (.instantiable RX1 5) qLx_ins1)
  obtain ⟨c2, iS2, hKn2⟩ := u_known (C := RX2) (T := TX2) (N := 13) (n := 13) hts inL_2 (hts (.instantiable RX2 13) qLx_ins2)
  obtain ⟨c3, iS3, hKn3⟩ := u_known (C := RX3) (T := TX3) (N := 5) (n := 5) hts inL_3 (hts (.instantiable RX3 5) qLx_ins3)
  obtain ⟨c4, iS4, hKn4⟩ := u_known (C := RX4) (T := TX4) (N := 3) (n := 3) hts inL_4 (hts (.instantiable RX4 3) qLx_ins4)
  obtain ⟨c5, iS5, hKn5⟩ := u_known (C := RX5) (T := TX5) (N := 13) (n := 13) hts inL_5 (hts (.instantiable RX5 13) qLx_ins5)
  obtain ⟨c6, iS6, hKn6⟩ := u_known (C := RX6) (T := TX6) (N := 6) (n := 6) hts inL_6 (hts (.instantiable RX6 6) qLx_ins6)
  obtain ⟨c7, iS7, hKn7⟩ := u_known (C := RX7) (T := TX7) (N := 6) (n := 6) hts inL_7 (hts (.instantiable RX7 6) qLx_ins7)
  obtain ⟨c8, iS8, hKn8⟩ := u_known (C := RX8) (T := TX8) (N := 58) (n := 58) hts inL_8 (hts (.instantiable RX8 58) qLx_ins8)
  obtain ⟨dC, dI, hKc⟩ : ∃ (dC : Nat → ClassId) (dI : Nat → Nat → Nat), ∀ (k : Nat) (q : vw_C), vwCl[k]? = some q → u_Kn s q.1 q.2.1 q.2.2 (dC k) (dI k) := by
    refine ⟨fun k => match k with | 0 => c0 | 1 => c1 | 2 => c2 | 3 => c3 | 4 => c4 | 5 => c5 | 6 => c6 | 7 => c7 | _ => c8, fun k => match k with | 0 => iS0 | 1 => iS1 | 2 => iS2 | 3 => iS3 | 4 => iS4 | 5 => iS5 | 6 => iS6 | 7 => iS7 | _ => iS8, ?_⟩
    intro k q hq
    match k, hq with
    | 0, hq => cases hq; exact hKn0
    | 1, hq => cases hq; exact hKn1
    | 2, hq => cases hq; exact hKn2
    | 3, hq => cases hq; exact hKn3
    | 4, hq => cases hq; exact hKn4
    | 5, hq => cases hq; exact hKn5
    | 6, hq => cases hq; exact hKn6
    | 7, hq => cases hq; exact hKn7
    | 8, hq => cases hq; exact hKn8
    | k + 9, hq => simp [vwCl] at hq
  obtain ⟨cI, kI, compI, fI, hkI, hkindI⟩ := Cond.arrayClass_spec (hts (.arrayClass .int) qLe_aci)
  obtain ⟨compL, cL, kL, fL, -, hkL, hkindL, gL⟩ := Cond.arrayOver_spec (hts (.arrayOver (.object "PlateRings$Loss")) qLe_aoL)
  obtain ⟨compP, cP, kP, fP, -, hkP, hkindP, gP⟩ := Cond.arrayOver_spec (hts (.arrayOver (.object "PlateRings$Plate")) qLe_aoP)
  have aI : ArrOfT s cI .int := fun n z => ⟨fun k h => (by cases h), kI, hkI, compI, hkindI⟩
  have aL : ArrOfT s cL (.object "PlateRings$Loss") := fun n z => ⟨fun k h => (by cases h), kL, hkL, compL, hkindL⟩
  have aP : ArrOfT s cP (.object "PlateRings$Plate") := fun n z => ⟨fun k h => (by cases h), kP, hkP, compP, hkindP⟩
  obtain ⟨ts, htS, hTS⟩ := va_Tof (tm := .static "PlateRings" "LONG_STEPS" "[I") (ty := .int) (N := 3) (f := fun j => .int (zst.getD j 0)) (A := fun q : Nat => s.heap.size ≤ q) (by decide) (hs _ (by decide +kernel)) (va_eqt (hs (Cond.eq (.length (.static "PlateRings" "LONG_STEPS" "[I")) (.int 3)) (by decide +kernel))) (fun j hj => by
    rcases (show j = 0 ∨ j = 1 ∨ j = 2 by omega) with rfl | rfl | rfl
    · exact va_eqt (hs (Cond.eq (.elem (.static "PlateRings" "LONG_STEPS" "[I") (.int 0)) (.int 10)) (by decide +kernel))
    · exact va_eqt (hs (Cond.eq (.elem (.static "PlateRings" "LONG_STEPS" "[I") (.int 1)) (.int 5)) (by decide +kernel))
    · exact va_eqt (hs (Cond.eq (.elem (.static "PlateRings" "LONG_STEPS" "[I") (.int 2)) (.int 2)) (by decide +kernel))) hA
  obtain ⟨adK, adV, hSt, hadK⟩ := vk_Sof (args := #[Value.ref b]) (s := s) (N := 1) (tm := fun _ => (.string "PlateRings$Text" 91)) (len := [8]) (byt := ztx) (A := fun q : Nat => s.heap.size ≤ q) (fun i hi => by rcases (show i = 0 by omega) with rfl; decide) (fun i hi => hs (Cond.exactly (.string "PlateRings$Text" 91) "java/lang/String") (by decide +kernel)) (fun i hi => hs (Cond.eq (.field (.string "PlateRings$Text" 91) "java/lang/String" "coder" "B") (.int 0)) (by decide +kernel)) (fun i hi => hs (Cond.arrayOf (.field (.string "PlateRings$Text" 91) "java/lang/String" "value" "[B") .byte) (by decide +kernel)) (fun i hi => by
      rcases (show i = 0 by omega) with rfl
      exact hs (Cond.eq (.length (.field (.string "PlateRings$Text" 91) "java/lang/String" "value" "[B")) (.int 8)) (by decide +kernel)) (fun i hi j hj => by
      rcases (show i = 0 by omega) with rfl
      have hj8 : j < 8 := hj
      rcases (show j = 0 ∨ j = 1 ∨ j = 2 ∨ j = 3 ∨ j = 4 ∨ j = 5 ∨ j = 6 ∨ j = 7 by omega) with rfl | rfl | rfl | rfl | rfl | rfl | rfl | rfl
      · exact hs (Cond.eq (.elem (.field (.string "PlateRings$Text" 91) "java/lang/String" "value" "[B") (.int 0)) (.int 108)) (by decide +kernel)
      · exact hs (Cond.eq (.elem (.field (.string "PlateRings$Text" 91) "java/lang/String" "value" "[B") (.int 1)) (.int 116)) (by decide +kernel)
      · exact hs (Cond.eq (.elem (.field (.string "PlateRings$Text" 91) "java/lang/String" "value" "[B") (.int 2)) (.int 119)) (by decide +kernel)
      · exact hs (Cond.eq (.elem (.field (.string "PlateRings$Text" 91) "java/lang/String" "value" "[B") (.int 3)) (.int 100)) (by decide +kernel)
      · exact hs (Cond.eq (.elem (.field (.string "PlateRings$Text" 91) "java/lang/String" "value" "[B") (.int 4)) (.int 101)) (by decide +kernel)
      · exact hs (Cond.eq (.elem (.field (.string "PlateRings$Text" 91) "java/lang/String" "value" "[B") (.int 5)) (.int 98)) (by decide +kernel)
      · exact hs (Cond.eq (.elem (.field (.string "PlateRings$Text" 91) "java/lang/String" "value" "[B") (.int 6)) (.int 102)) (by decide +kernel)
      · exact hs (Cond.eq (.elem (.field (.string "PlateRings$Text" 91) "java/lang/String" "value" "[B") (.int 7)) (.int 107)) (by decide +kernel)) (fun i j hi hj hij => absurd (by omega) hij) hA
  refine ⟨(dC, dI), (cI, cL, cP), (ts, adK, adV), ⟨hKc, fun k q hk => ?_⟩, ⟨va_Nw.of rfl (hts _ qLe_n73), va_Nw.of rfl (hts _ qLe_n89), va_Zof (hts _ qLe_lsS) (hts _ qLx_ini7) htS hA, hTS, va_Zof (hts _ qLe_lsC) (hts _ qLe_iniS) (va_eqi (hs (Cond.eq (.static "java/lang/String" "COMPACT_STRINGS" "Z") (.int 1)) (by decide +kernel))) hA, vk_R.of (hts _ qLe_str) (hadK 0 (by decide)), hSt⟩, ⟨va_AO.of (hts _ qLe_aoP), va_AO.of (hts _ qLe_aoL), va_Nw.of rfl (hts _ qLe_n9), va_Nw.of rfl (hts _ qLe_n22), va_Nw.of rfl (hts _ qLe_n38), va_Nw.of rfl (hts _ qLe_n45)⟩⟩
  match k, hk with
  | 0, hk => cases hk; exact ⟨aI, fI⟩
  | 1, hk => cases hk; exact ⟨aL, kL, compL, hkL, hkindL, fL, gL⟩
  | 2, hk => cases hk; exact ⟨aP, kP, compP, hkP, hkindP, fP, gP⟩
  | k + 3, hk => simp [ctys] at hk
set_option maxRecDepth 100000 in
set_option maxHeartbeats 4000000 in
theorem law_start {p : Program} {e : Env} {s : State} {m : MethodId} {below : List Frame} {meth : Method} {c : Code} (l : Launch) {b L : Nat} {xs : Nat → Int32} (hL : L ≤ 448) (C0 : lw_At p s m meth c b L xs) (n : Nat) {Rl : CS → MS → Prop} (hS : SR n Rl) (hR0 : Rl gam0 mu0) : W p l e room_1 s m #[Value.ref b] below meth c s.heap [] 0 0 (lw_Z below #[Value.ref b] s) (entryFrame m ([Value.ref b] : List Value).toArray 4) := by
  obtain ⟨hx, hb, hr, hml, hown, hts, hX, hbl, hlocks, hgv⟩ := id C0
  obtain ⟨D, cy, z, hK, hE, hI⟩ := law_facts hts hgv
  have hA : ∀ q : Nat, s.heap.size ≤ q → (fun q : Nat => s.heap.size ≤ q) q := fun _ h => h
  have hVi : iV D cy (fun q : Nat => s.heap.size ≤ q) s := ⟨hK, hA, hI⟩
  have hV : lV D cy z (fun q : Nat => s.heap.size ≤ q) s := ⟨hK, hA, hE⟩
  have hB : iB D (fun q : Nat => s.heap.size ≤ q) s.heap [] s.heap [] := ⟨fun k q h => by simp at h, ⟨fun i j p q h => by simp at h, fun k q h => by simp at h⟩, va_S.rf⟩
  have hl := lv_entry ([.ref b]) (n := 4) (Nat.le_of_ble_eq_true rfl)
  rw [lg_entry_eq]
  generalize (lg_sl ([.ref b]) ++ List.replicate (4 - (lg_sl ([.ref b])).length) Slot.unset).toArray = ls at hl ⊢
  have hl : lv_has ls 4 [(0, .ref b)] := hl
  refine ri_new (own := RL) hx hb hts inL_7 tyX7 tyX7_ok hown (hts _ qLo_classLink_7) (hts _ qLx_ins7) (hts _ qLx_ini7) hVi hB (ci := 7) rfl (fs := [.null, .null, .null, .null, .null, .int 0]) dfl_7 (Nat.le_of_ble_eq_true rfl) (Nat.le_of_ble_eq_true rfl) dL_law_0 (fun q0 H hB => ?_)
  have hB : iB D (fun q : Nat => s.heap.size ≤ q) s.heap ([] ++ [(q0, .inr (7, [.null, .null, .null, .null, .null, .int 0]))]) H [] := hB
  refine W.widen (k := 1) (n := 6) (Nat.le_of_ble_eq_true rfl) (Nat.le_of_ble_eq_true rfl) ?_
  refine lv_dup hx hb dL_law_3 rfl ?_
  refine ri_callI (own := RL) (As := []) (rest := [.ref q0]) hx hb hml hown hts hl.1 hVi (wr := []) (wc := [(q0, .inr (7, [.null, .null, .null, .null, .null, .int 0]))]) hB (ci_X7_init l D cy q0) (cwI 0 hts (gL_c wsC_in allC qLp_co_X7_init) rfl rfl rfl (hts _ qLx_ini7) (hts _ qLo_methodLink_9) (hts _ qLp_im_X7_init) rfl (by decide +kernel) ⟨Nat.le_of_ble_eq_true rfl, Nat.le_of_ble_eq_true rfl⟩) rfl rfl (lv_room (Nat.le_of_ble_eq_true rfl)) dL_law_4 (Nat.le_of_ble_eq_true rfl) (Nat.le_of_ble_eq_true rfl) (fun w1 hw1 H locs hB => ?_)
  obtain ⟨ad, rfl, rfl⟩ := x_made hw1
  refine W.eq (g2 := F0 m 7 ls [.ref (ad 0)]) rfl ?_
  refine W.widen (k := 34) (n := 668) (Nat.le_of_ble_eq_true rfl) (Nat.le_of_ble_eq_true rfl) ?_
  refine lv_astore_n (lv' := [(1, .ref (ad 0)), (0, .ref b)]) hx hb dL_law_7 rfl hl (by decide) rfl (fun ls hl => ?_)
  have hB : iB D (fun q : Nat => s.heap.size ≤ q) s.heap (cw ad cy gam0) H locs := hB
  refine ri_new (own := RL) hx hb hts inL_8 tyX8 tyX8_ok hown (hts _ qLo_classLink_10) (hts _ qLx_ins8) (hts _ qLx_ini8) hVi hB (ci := 8) rfl (fs := [.null, .null, .null, .null, .null, .null, .null, .null, .null, .int 0, .int 0, .int 0, .int 0, .null, .null, .null, .null, .null, .null, .null, .null, .int 0, .int 0, .int 0, .int 0, .int 0, .int 0, .int 0, .int 0, .int 0, .int 0, .int 0, .int 0, .null, .int 0, .int 0, .null, .null, .int 0, .int 0, .int 0, .int 0, .int 0, .int 0, .int 0, .int 0, .long 0, .null, .int 0, .int 0, .null, .null, .int 0, .null, .int 0, .int 0, .int 0, .long 0]) dfl_8 (Nat.le_of_ble_eq_true rfl) (Nat.le_of_ble_eq_true rfl) dL_law_8 (fun q1 H hB => ?_)
  refine W.widen (k := 35) (n := 726) (Nat.le_of_ble_eq_true rfl) (Nat.le_of_ble_eq_true rfl) ?_
  refine lv_dup hx hb dL_law_11 rfl ?_
  refine ri_callI (own := RL) (As := []) (rest := [.ref q1]) hx hb hml hown hts hl.1 hVi (wr := cw ad cy gam0) (wc := [(q1, .inr (8, [.null, .null, .null, .null, .null, .null, .null, .null, .null, .int 0, .int 0, .int 0, .int 0, .null, .null, .null, .null, .null, .null, .null, .null, .int 0, .int 0, .int 0, .int 0, .int 0, .int 0, .int 0, .int 0, .int 0, .int 0, .int 0, .int 0, .null, .int 0, .int 0, .null, .null, .int 0, .int 0, .int 0, .int 0, .int 0, .int 0, .int 0, .int 0, .long 0, .null, .int 0, .int 0, .null, .null, .int 0, .null, .int 0, .int 0, .int 0, .long 0]))]) hB (ci_X8_init l D cy q1) (cwI 0 hts (gL_c wsM_in allM qLp_co_X8_init) rfl rfl rfl (hts _ qLx_ini8) (hts _ qLo_methodLink_12) (hts _ qLp_im_X8_init) rfl (by decide +kernel) ⟨Nat.le_of_ble_eq_true rfl, Nat.le_of_ble_eq_true rfl⟩) rfl rfl (lv_room (Nat.le_of_ble_eq_true rfl)) dL_law_12 (Nat.le_of_ble_eq_true rfl) (Nat.le_of_ble_eq_true rfl) (fun w1 hw1 H locs hB => ?_)
  obtain ⟨am, rfl, rfl⟩ := m_made hw1
  refine W.eq (g2 := F0 m 15 ls [.ref (am 0)]) rfl ?_
  refine W.widen (k := 59) (n := 2231) (Nat.le_of_ble_eq_true rfl) (Nat.le_of_ble_eq_true rfl) ?_
  refine lv_astore_n (lv' := [(2, .ref (am 0)), (1, .ref (ad 0)), (0, .ref b)]) hx hb dL_law_15 rfl hl (by decide) rfl (fun ls hl => ?_)
  refine lv_iconst (v := 0) hx hb dL_law_16 (by decide) ?_
  refine lv_istore_n (lv' := [(3, .int 0), (2, .ref (am 0)), (1, .ref (ad 0)), (0, .ref b)]) hx hb dL_law_17 rfl hl (by decide) rfl (fun ls hl => ?_)
  exact law_loop hL C0 hV n hS 65 0 0 rfl rfl ad gam0 mu0 H locs ls hR0 ⟨Nat.le_refl _, b_sw hB⟩ (lv_sub hl [3, 2, 1, 0] rfl)
