section
/-! THE IMAGE in the class: a bench copied onto the other -/
theorem cpp_3 (γ : CS) (a k : Nat) (v : Option Nat) (b j : Nat) : (cpp γ a k v).2.2.1 b j = if b = a ∧ j = k then v else γ.2.2.1 b j := by
  by_cases h : b = a
  · subst h
    by_cases h2 : j = k <;> simp [cpp, va_up, h2]
  · simp [cpp, va_up, h]
/-- copied so far -/
def CK (b b1 : Nat) (γ0 γ : CS) (D : Nat → Nat → Prop) (E : Prop) : Prop := γ.2.2 = γ0.2.2 ∧ (∀ a, (a < b1 ∨ b1 + 12 < a) → γ.1 a = γ0.1 a) ∧ (∀ a, (a < b1 ∨ b1 + 12 < a) → γ.2.1 a = γ0.2.1 a) ∧ (∀ c i, D c i → γ.1 (b1 + c) i = γ0.1 (b + c) i) ∧ (E → γ.2.1 (b1 + 7) = γ0.2.1 (b + 7))
theorem CK_cp {b b1 : Nat} {γ0 γ : CS} {D : Nat → Nat → Prop} {E : Prop} (hb : b + 12 < b1 ∨ b1 + 12 < b) (c k : Nat) {a1 a0 : Nat} (h1 : b1 + c = a1) (h0 : b + c = a0) (hc : c ≤ 12) (H : CK b b1 γ0 γ D E) : CK b b1 γ0 (cp γ a1 k (γ.1 a0 k)) (fun c' i => D c' i ∨ (c' = c ∧ i = k)) E := by
  subst h1; subst h0
  obtain ⟨g1, g2, g3, g4, g5⟩ := H
  refine ⟨g1, fun a ha => (cp_ne _ _ _ _ (by omega)).trans (g2 a ha), g3, fun c' i hd => ?_, g5⟩
  rw [cp_1]
  by_cases e : b1 + c' = b1 + c ∧ i = k
  · have e1 : c' = c := by omega
    have e2 : i = k := e.2
    subst e1; subst e2
    rw [if_pos e, g2 (b + c') (by omega)]
  · rw [if_neg e]
    rcases hd with hd | ⟨rfl, rfl⟩
    · exact g4 _ _ hd
    · exact absurd ⟨rfl, rfl⟩ e
theorem CK_cpr {b b1 : Nat} {γ0 γ : CS} {D : Nat → Nat → Prop} {E : Prop} (hb : b + 12 < b1 ∨ b1 + 12 < b) (c m : Nat) {a1 a0 : Nat} (h1 : b1 + c = a1) (h0 : b + c = a0) (hc : c ≤ 12) {z w mm : Nat} (hz : z = 0) (hw : w = 0) (hm : mm = m) (H : CK b b1 γ0 γ D E) : CK b b1 γ0 (cpr γ a1 (va_cpy (γ.1 a0) (γ.1 a1) z w mm)) (fun c' i => D c' i ∨ (c' = c ∧ i < m)) E := by
  subst h1; subst h0; subst hz; subst hw; subst hm
  obtain ⟨g1, g2, g3, g4, g5⟩ := H
  refine ⟨g1, fun a ha => (cpr_ne _ _ _ (by omega)).trans (g2 a ha), g3, fun c' i hd => ?_, g5⟩
  by_cases e1 : c' = c
  · subst e1
    rw [cpr_row]
    unfold va_cpy
    by_cases e : 0 ≤ i ∧ i < 0 + mm
    · rw [if_pos e, g2 (b + c') (by omega), show 0 + (i - 0) = i by omega]
    · rw [if_neg e]
      rcases hd with hd | hd
      · exact g4 _ _ hd
      · exact absurd ⟨Nat.zero_le _, by omega⟩ e
  · rw [cpr_ne _ _ _ (by omega)]
    rcases hd with hd | hd
    · exact g4 _ _ hd
    · exact absurd hd.1 e1
theorem CK_cpj {b b1 : Nat} {γ0 γ : CS} {D : Nat → Nat → Prop} {E : Prop} (hb : b + 12 < b1 ∨ b1 + 12 < b) {a1 a0 : Nat} (h1 : b1 + 7 = a1) (h0 : b + 7 = a0) (H : CK b b1 γ0 γ D E) : CK b b1 γ0 (cpj γ a1 (γ.2.1 a0)) D True := by
  subst h1; subst h0
  obtain ⟨g1, g2, g3, g4, g5⟩ := H
  refine ⟨g1, g2, fun a ha => (va_up_ne _ _ (by omega)).trans (g3 a ha), g4, fun _ => ?_⟩
  show va_up γ.2.1 (b1 + 7) _ (b1 + 7) = _
  rw [← g3 (b + 7) (by omega)]
  simp [va_up]
theorem cpP_18 (n : Nat) : ∀ (m i k : Nat) (γ : CS), i + m = 6 → m < k → (∀ j q, γ.2.2.1 6 j = some q → pk γ q 3 = true) → ∃ γ1, lc_X0_copyFrom_18_5_2 n k γ (nI i) = lc_X0_copyFrom_18_5_28 n n γ1 (nI 0) ∧ γ1.1 = γ.1 ∧ γ1.2.1 = γ.2.1 ∧ γ1.2.2.2 = γ.2.2.2 ∧ (∀ a, a ≠ 19 → γ1.2.2.1 a = γ.2.2.1 a) ∧ (∀ j, i ≤ j → j < 6 → γ1.2.2.1 19 j = γ.2.2.1 6 j) ∧ (∀ j, (j < i ∨ 6 ≤ j) → γ1.2.2.1 19 j = γ.2.2.1 19 j) := by
  intro m
  induction m with
  | zero =>
    intro i k γ hi hk hA
    obtain ⟨k, rfl⟩ : ∃ k', k = k' + 1 := ⟨k - 1, by omega⟩
    obtain rfl : i = 6 := by omega
    refine ⟨γ, ?_, rfl, rfl, rfl, fun _ _ => rfl, fun j h1 h2 => absurd h2 (by omega), fun _ _ => rfl⟩
    show bc_X0_copyFrom_18_5_2 n (lc_X0_copyFrom_18_5_2 n k) γ (nI 6) = _
    unfold bc_X0_copyFrom_18_5_2
    exact if_t (nI_le (a := 6) (b := 6) (by omega) (by omega)) rfl
  | succ m ih =>
    intro i k γ hi hk hA
    obtain ⟨k, rfl⟩ : ∃ k', k = k' + 1 := ⟨k - 1, by omega⟩
    have hci : Int32.toNatClampNeg (nI i) = i := nI_clamp (by omega)
    have key : lc_X0_copyFrom_18_5_2 n (k + 1) γ (nI i) = lc_X0_copyFrom_18_5_2 n k (cpp γ 19 i (γ.2.2.1 6 i)) (nI (i + 1)) := by
      show bc_X0_copyFrom_18_5_2 n (lc_X0_copyFrom_18_5_2 n k) γ (nI i) = _
      unfold bc_X0_copyFrom_18_5_2
      refine if_f (nI_ge (b := 6) (by omega) (by omega)) (ck_g (ib_nI (by omega) (by omega)) (sq_r (x1 := γ.2.2.1 6 i) (by rw [hci]) ?_))
      cases e : γ.2.2.1 6 i with
      | none => exact ck_g (ib_nI (by omega) (by omega)) (sq_r (x1 := cpp γ 19 i none) (by rw [hci]) (sq_r (nI_1 i) rfl))
      | some q => exact ck_g (hA i q e) (ck_g (ib_nI (by omega) (by omega)) (sq_r (x1 := cpp γ 19 i (some q)) (by rw [hci]) (sq_r (nI_1 i) rfl)))
    obtain ⟨γ1, r1, r2, r3, r4, r5, r6, r7⟩ := ih (i + 1) k (cpp γ 19 i (γ.2.2.1 6 i)) (by omega) (by omega) (fun j q h => by
      rw [cpp_3, if_neg (by omega)] at h
      exact hA j q h)
    refine ⟨γ1, key.trans r1, r2, r3, r4, fun a ha => (r5 a ha).trans (va_up_ne _ _ ha), fun j h1 h2 => ?_, fun j hj => ?_⟩
    · by_cases e : j = i
      · subst e
        rw [r7 j (by omega), cpp_3, if_pos ⟨rfl, rfl⟩]
      · rw [r6 j (by omega) h2, cpp_3, if_neg (by omega)]
    · rw [r7 j (by omega), cpp_3, if_neg (by omega)]
theorem cpL_18 (n : Nat) : ∀ (m i k : Nat) (γ : CS), i + m = 8 → m < k → (∀ j q, γ.2.2.1 7 j = some q → pk γ q 1 = true) → ∃ γ1, lc_X0_copyFrom_18_5_28 n k γ (nI i) = lc_X0_copyFrom_18_5_28 n (k - (8 - i)) γ1 8 ∧ γ1.1 = γ.1 ∧ γ1.2.1 = γ.2.1 ∧ γ1.2.2.2 = γ.2.2.2 ∧ (∀ a, a ≠ 20 → γ1.2.2.1 a = γ.2.2.1 a) ∧ (∀ j, i ≤ j → j < 8 → γ1.2.2.1 20 j = γ.2.2.1 7 j) ∧ (∀ j, (j < i ∨ 8 ≤ j) → γ1.2.2.1 20 j = γ.2.2.1 20 j) := by
  intro m
  induction m with
  | zero =>
    intro i k γ hi hk hA
    obtain ⟨k, rfl⟩ : ∃ k', k = k' + 1 := ⟨k - 1, by omega⟩
    obtain rfl : i = 8 := by omega
    exact ⟨γ, rfl, rfl, rfl, rfl, fun _ _ => rfl, fun j h1 h2 => absurd h2 (by omega), fun _ _ => rfl⟩
  | succ m ih =>
    intro i k γ hi hk hA
    obtain ⟨k, rfl⟩ : ∃ k', k = k' + 1 := ⟨k - 1, by omega⟩
    have hci : Int32.toNatClampNeg (nI i) = i := nI_clamp (by omega)
    have key : lc_X0_copyFrom_18_5_28 n (k + 1) γ (nI i) = lc_X0_copyFrom_18_5_28 n k (cpp γ 20 i (γ.2.2.1 7 i)) (nI (i + 1)) := by
      show bc_X0_copyFrom_18_5_28 n (lc_X0_copyFrom_18_5_28 n k) γ (nI i) = _
      unfold bc_X0_copyFrom_18_5_28
      refine if_f (nI_ge (b := 8) (by omega) (by omega)) (ck_g (ib_nI (by omega) (by omega)) (sq_r (x1 := γ.2.2.1 7 i) (by rw [hci]) ?_))
      cases e : γ.2.2.1 7 i with
      | none => exact ck_g (ib_nI (by omega) (by omega)) (sq_r (x1 := cpp γ 20 i none) (by rw [hci]) (sq_r (nI_1 i) rfl))
      | some q => exact ck_g (hA i q e) (ck_g (ib_nI (by omega) (by omega)) (sq_r (x1 := cpp γ 20 i (some q)) (by rw [hci]) (sq_r (nI_1 i) rfl)))
    obtain ⟨γ1, r1, r2, r3, r4, r5, r6, r7⟩ := ih (i + 1) k (cpp γ 20 i (γ.2.2.1 7 i)) (by omega) (by omega) (fun j q h => by
      rw [cpp_3, if_neg (by omega)] at h
      exact hA j q h)
    refine ⟨γ1, key.trans (r1.trans (by rw [show k - (8 - (i + 1)) = k + 1 - (8 - i) by omega])), r2, r3, r4, fun a ha => (r5 a ha).trans (va_up_ne _ _ ha), fun j h1 h2 => ?_, fun j hj => ?_⟩
    · by_cases e : j = i
      · subst e
        rw [r7 j (by omega), cpp_3, if_pos ⟨rfl, rfl⟩]
      · rw [r6 j (by omega) h2, cpp_3, if_neg (by omega)]
    · rw [r7 j (by omega), cpp_3, if_neg (by omega)]
theorem cpI_18 (n : Nat) (k : Nat) {γ : CS} (h0 : zb (γ.1 12 0) = true) (h11 : zb (γ.1 5 11) = true) : ∃ γ1 D, lc_X0_copyFrom_18_5_28 n (k + 1) γ 8 = some (0, γ1) ∧ CK 5 18 γ γ1 D True ∧ ∀ c i, okC c i → D c i := by
  have hb : 5 + 12 < 18 ∨ 18 + 12 < 5 := by omega
  have K0 : CK 5 18 γ γ (fun _ _ => False) False := ⟨rfl, fun _ _ => rfl, fun _ _ => rfl, fun _ _ h => h.elim, fun h => h.elim⟩
  have K1 := CK_cpr hb 3 4 (a1 := 21) (a0 := 8) rfl rfl (by omega) (z := Int32.toNatClampNeg 0) (w := Int32.toNatClampNeg 0) (mm := Int32.toNatClampNeg 4) (by decide) (by decide) (by decide) K0
  have K2 := CK_cpr hb 4 4 (a1 := 22) (a0 := 9) rfl rfl (by omega) (z := Int32.toNatClampNeg 0) (w := Int32.toNatClampNeg 0) (mm := Int32.toNatClampNeg 4) (by decide) (by decide) (by decide) K1
  have K3 := CK_cpr hb 5 4 (a1 := 23) (a0 := 10) rfl rfl (by omega) (z := Int32.toNatClampNeg 0) (w := Int32.toNatClampNeg 0) (mm := Int32.toNatClampNeg 4) (by decide) (by decide) (by decide) K2
  have K4 := CK_cpr hb 6 4 (a1 := 24) (a0 := 11) rfl rfl (by omega) (z := Int32.toNatClampNeg 0) (w := Int32.toNatClampNeg 0) (mm := Int32.toNatClampNeg 4) (by decide) (by decide) (by decide) K3
  have K5 := CK_cp hb 7 0 (a1 := 25) (a0 := 12) rfl rfl (by omega) K4
  have K6 := CK_cp hb 7 1 (a1 := 25) (a0 := 12) rfl rfl (by omega) K5
  have K7 := CK_cp hb 7 2 (a1 := 25) (a0 := 12) rfl rfl (by omega) K6
  have K8 := CK_cp hb 7 3 (a1 := 25) (a0 := 12) rfl rfl (by omega) K7
  have K9 := CK_cp hb 7 4 (a1 := 25) (a0 := 12) rfl rfl (by omega) K8
  have K10 := CK_cp hb 7 5 (a1 := 25) (a0 := 12) rfl rfl (by omega) K9
  have K11 := CK_cp hb 7 6 (a1 := 25) (a0 := 12) rfl rfl (by omega) K10
  have K12 := CK_cp hb 7 7 (a1 := 25) (a0 := 12) rfl rfl (by omega) K11
  have K13 := CK_cpj hb (a1 := 25) (a0 := 12) rfl rfl K12
  have K14 := CK_cp hb 7 9 (a1 := 25) (a0 := 12) rfl rfl (by omega) K13
  have K15 := CK_cpr hb 8 8 (a1 := 26) (a0 := 13) rfl rfl (by omega) (z := Int32.toNatClampNeg 0) (w := Int32.toNatClampNeg 0) (mm := Int32.toNatClampNeg 8) (by decide) (by decide) (by decide) K14
  have K16 := CK_cpr hb 9 100 (a1 := 27) (a0 := 14) rfl rfl (by omega) (z := Int32.toNatClampNeg 0) (w := Int32.toNatClampNeg 0) (mm := Int32.toNatClampNeg 100) (by decide) (by decide) (by decide) K15
  have K17 := CK_cpr hb 10 100 (a1 := 28) (a0 := 15) rfl rfl (by omega) (z := Int32.toNatClampNeg 0) (w := Int32.toNatClampNeg 0) (mm := Int32.toNatClampNeg 100) (by decide) (by decide) (by decide) K16
  have K18 := CK_cpr hb 12 24 (a1 := 30) (a0 := 17) rfl rfl (by omega) (z := Int32.toNatClampNeg 0) (w := Int32.toNatClampNeg 0) (mm := Int32.toNatClampNeg 24) (by decide) (by decide) (by decide) K17
  have K19 := CK_cp hb 11 1 (a1 := 29) (a0 := 16) rfl rfl (by omega) K18
  have K20 := CK_cp hb 11 2 (a1 := 29) (a0 := 16) rfl rfl (by omega) K19
  have K21 := CK_cp hb 0 8 (a1 := 18) (a0 := 5) rfl rfl (by omega) K20
  have K22 := CK_cp hb 0 9 (a1 := 18) (a0 := 5) rfl rfl (by omega) K21
  have K23 := CK_cp hb 0 10 (a1 := 18) (a0 := 5) rfl rfl (by omega) K22
  have K24 := CK_cp hb 0 11 (a1 := 18) (a0 := 5) rfl rfl (by omega) K23
  have z0 := h0
  rw [← K4.2.1 12 (by omega)] at z0
  have z11 := h11
  rw [← K23.2.1 5 (by omega)] at z11
  refine ⟨_, _, ?_, K24, fun c i h => ?_⟩
  rotate_left
  · rcases h with ⟨rfl, h1, h2⟩ | ⟨h1, h2, h3⟩ | ⟨rfl, h1, h2⟩ | ⟨rfl, h1⟩ | ⟨h1, h2⟩ | ⟨rfl, h1⟩ | ⟨rfl, h1⟩
    · have hi : i = 8 ∨ i = 9 ∨ i = 10 ∨ i = 11 := by omega
      rcases hi with rfl | rfl | rfl | rfl <;> simp
    · have hc : c = 3 ∨ c = 4 ∨ c = 5 ∨ c = 6 := by omega
      rcases hc with rfl | rfl | rfl | rfl <;> simp [h3]
    · have hi : i = 0 ∨ i = 1 ∨ i = 2 ∨ i = 3 ∨ i = 4 ∨ i = 5 ∨ i = 6 ∨ i = 7 ∨ i = 9 := by omega
      rcases hi with rfl | rfl | rfl | rfl | rfl | rfl | rfl | rfl | rfl <;> simp
    · simp [h1]
    · rcases h1 with rfl | rfl <;> simp [h2]
    · rcases h1 with rfl | rfl <;> simp
    · simp [h1]
  show bc_X0_copyFrom_18_5_28 n (lc_X0_copyFrom_18_5_28 n k) γ 8 = _
  unfold bc_X0_copyFrom_18_5_28
  exact if_t (by decide) (sq_g (sq_g (sq_g (sq_g (bd_g (ck_g z0 (sq_g (sq_g (sq_g (sq_g (sq_g (sq_g (sq_g (sq_g (sq_g (sq_g (sq_g (sq_g (sq_g rfl)))))))))))))) (bd_g (sq_g (sq_g (sq_g rfl))) (sq_g (sq_g (sq_g (ck_g z11 (sq_g rfl)))))))))))
theorem cpA_18 (n : Nat) (hn : 1000 ≤ n) {γ : CS} (hA : ARr γ) (h0 : zb (γ.1 12 0) = true) (h11 : zb (γ.1 5 11) = true) : ∃ γ1, fc_X0_copyFrom_18_5 n γ = some (0, γ1) ∧ CV γ 5 γ1 18 ∧ γ1.2.2.2 = γ.2.2.2 ∧ (∀ a, (a < 18 ∨ 18 + 12 < a) → γ1.1 a = γ.1 a ∧ γ1.2.1 a = γ.2.1 a ∧ γ1.2.2.1 a = γ.2.2.1 a) ∧ (∀ a, a ≠ 19 → a ≠ 20 → γ1.2.2.1 a = γ.2.2.1 a) ∧ (∀ j, γ1.2.2.1 19 j = γ.2.2.1 6 j ∨ γ1.2.2.1 19 j = γ.2.2.1 19 j) ∧ (∀ j, γ1.2.2.1 20 j = γ.2.2.1 7 j ∨ γ1.2.2.1 20 j = γ.2.2.1 20 j) := by
  obtain ⟨γ1, r1, r2, r3, r4, r5, r6, r7⟩ := cpP_18 n 6 0 n γ (by omega) (by omega) (fun j q h => (hA j q).1 h)
  obtain ⟨γ2, s1, s2, s3, s4, s5, s6, s7⟩ := cpL_18 n 8 0 n γ1 (by omega) (by omega) (fun j q h => by
    rw [r5 _ (by decide)] at h
    have := (hA j q).2.2.1 h
    unfold pk at *
    rw [r4]; exact this)
  obtain ⟨γ3, D, t1, ⟨t2, t3, t4, t5, t6⟩, t7⟩ := cpI_18 n (n - 9) (γ := γ2) (by rw [s2, r2]; exact h0) (by rw [s2, r2]; exact h11)
  have eP : ∀ a, a ≠ 19 → a ≠ 20 → γ3.2.2.1 a = γ.2.2.1 a := fun a x y => by rw [t2, s5 a y, r5 a x]
  have e1 : ∀ j, γ3.2.2.1 19 j = γ1.2.2.1 19 j := fun j => by rw [t2, s5 _ (by decide)]
  have e2 : ∀ j, γ3.2.2.1 20 j = γ2.2.2.1 20 j := fun j => by rw [t2]
  have e22 : γ3.2.2.2 = γ.2.2.2 := by rw [t2, s4, r4]
  have eI : ∀ a, (a < 18 ∨ 18 + 12 < a) → γ3.1 a = γ.1 a := fun a ha => by rw [t3 a ha, s2, r2]
  refine ⟨γ3, ?_, ⟨fun q k hq => ?_, fun i hi => ?_, fun i hi => ?_, fun c i h => ?_, ?_⟩, e22, fun a ha => ⟨eI a ha, by rw [t4 a ha, s3, r3], eP a (by omega) (by omega)⟩, eP, fun j => ?_, fun j => ?_⟩
  · refine r1.trans (s1.trans ?_)
    have hk : n - 8 = (n - 9) + 1 := by omega
    rw [hk]
    exact t1
  · have q34 := (pk_s hq).1
    exact ⟨by unfold pk at *; rw [e22]; exact hq, by rw [e22], eP q (by omega) (by omega), fun _ => eI q (by omega)⟩
  · show γ3.2.2.1 19 i = γ.2.2.1 6 i
    rw [e1, r6 i (by omega) hi]
  · show γ3.2.2.1 20 i = γ.2.2.1 7 i
    rw [e2, s6 i (by omega) hi, r5 _ (by decide)]
  · rw [t5 c i (t7 c i h), s2, r2]
  · rw [t6 trivial, s3, r3]
  · by_cases h : j < 6
    · exact Or.inl (by rw [e1, r6 j (by omega) h])
    · exact Or.inr (by rw [e1, r7 j (by omega)])
  · by_cases h : j < 8
    · exact Or.inl (by rw [e2, s6 j (by omega) h, r5 _ (by decide)])
    · exact Or.inr (by rw [e2, s7 j (by omega), r5 _ (by decide)])
theorem cpP_5 (n : Nat) : ∀ (m i k : Nat) (γ : CS), i + m = 6 → m < k → (∀ j q, γ.2.2.1 19 j = some q → pk γ q 3 = true) → ∃ γ1, lc_X0_copyFrom_5_18_2 n k γ (nI i) = lc_X0_copyFrom_5_18_28 n n γ1 (nI 0) ∧ γ1.1 = γ.1 ∧ γ1.2.1 = γ.2.1 ∧ γ1.2.2.2 = γ.2.2.2 ∧ (∀ a, a ≠ 6 → γ1.2.2.1 a = γ.2.2.1 a) ∧ (∀ j, i ≤ j → j < 6 → γ1.2.2.1 6 j = γ.2.2.1 19 j) ∧ (∀ j, (j < i ∨ 6 ≤ j) → γ1.2.2.1 6 j = γ.2.2.1 6 j) := by
  intro m
  induction m with
  | zero =>
    intro i k γ hi hk hA
    obtain ⟨k, rfl⟩ : ∃ k', k = k' + 1 := ⟨k - 1, by omega⟩
    obtain rfl : i = 6 := by omega
    refine ⟨γ, ?_, rfl, rfl, rfl, fun _ _ => rfl, fun j h1 h2 => absurd h2 (by omega), fun _ _ => rfl⟩
    show bc_X0_copyFrom_5_18_2 n (lc_X0_copyFrom_5_18_2 n k) γ (nI 6) = _
    unfold bc_X0_copyFrom_5_18_2
    exact if_t (nI_le (a := 6) (b := 6) (by omega) (by omega)) rfl
  | succ m ih =>
    intro i k γ hi hk hA
    obtain ⟨k, rfl⟩ : ∃ k', k = k' + 1 := ⟨k - 1, by omega⟩
    have hci : Int32.toNatClampNeg (nI i) = i := nI_clamp (by omega)
    have key : lc_X0_copyFrom_5_18_2 n (k + 1) γ (nI i) = lc_X0_copyFrom_5_18_2 n k (cpp γ 6 i (γ.2.2.1 19 i)) (nI (i + 1)) := by
      show bc_X0_copyFrom_5_18_2 n (lc_X0_copyFrom_5_18_2 n k) γ (nI i) = _
      unfold bc_X0_copyFrom_5_18_2
      refine if_f (nI_ge (b := 6) (by omega) (by omega)) (ck_g (ib_nI (by omega) (by omega)) (sq_r (x1 := γ.2.2.1 19 i) (by rw [hci]) ?_))
      cases e : γ.2.2.1 19 i with
      | none => exact ck_g (ib_nI (by omega) (by omega)) (sq_r (x1 := cpp γ 6 i none) (by rw [hci]) (sq_r (nI_1 i) rfl))
      | some q => exact ck_g (hA i q e) (ck_g (ib_nI (by omega) (by omega)) (sq_r (x1 := cpp γ 6 i (some q)) (by rw [hci]) (sq_r (nI_1 i) rfl)))
    obtain ⟨γ1, r1, r2, r3, r4, r5, r6, r7⟩ := ih (i + 1) k (cpp γ 6 i (γ.2.2.1 19 i)) (by omega) (by omega) (fun j q h => by
      rw [cpp_3, if_neg (by omega)] at h
      exact hA j q h)
    refine ⟨γ1, key.trans r1, r2, r3, r4, fun a ha => (r5 a ha).trans (va_up_ne _ _ ha), fun j h1 h2 => ?_, fun j hj => ?_⟩
    · by_cases e : j = i
      · subst e
        rw [r7 j (by omega), cpp_3, if_pos ⟨rfl, rfl⟩]
      · rw [r6 j (by omega) h2, cpp_3, if_neg (by omega)]
    · rw [r7 j (by omega), cpp_3, if_neg (by omega)]
theorem cpL_5 (n : Nat) : ∀ (m i k : Nat) (γ : CS), i + m = 8 → m < k → (∀ j q, γ.2.2.1 20 j = some q → pk γ q 1 = true) → ∃ γ1, lc_X0_copyFrom_5_18_28 n k γ (nI i) = lc_X0_copyFrom_5_18_28 n (k - (8 - i)) γ1 8 ∧ γ1.1 = γ.1 ∧ γ1.2.1 = γ.2.1 ∧ γ1.2.2.2 = γ.2.2.2 ∧ (∀ a, a ≠ 7 → γ1.2.2.1 a = γ.2.2.1 a) ∧ (∀ j, i ≤ j → j < 8 → γ1.2.2.1 7 j = γ.2.2.1 20 j) ∧ (∀ j, (j < i ∨ 8 ≤ j) → γ1.2.2.1 7 j = γ.2.2.1 7 j) := by
  intro m
  induction m with
  | zero =>
    intro i k γ hi hk hA
    obtain ⟨k, rfl⟩ : ∃ k', k = k' + 1 := ⟨k - 1, by omega⟩
    obtain rfl : i = 8 := by omega
    exact ⟨γ, rfl, rfl, rfl, rfl, fun _ _ => rfl, fun j h1 h2 => absurd h2 (by omega), fun _ _ => rfl⟩
  | succ m ih =>
    intro i k γ hi hk hA
    obtain ⟨k, rfl⟩ : ∃ k', k = k' + 1 := ⟨k - 1, by omega⟩
    have hci : Int32.toNatClampNeg (nI i) = i := nI_clamp (by omega)
    have key : lc_X0_copyFrom_5_18_28 n (k + 1) γ (nI i) = lc_X0_copyFrom_5_18_28 n k (cpp γ 7 i (γ.2.2.1 20 i)) (nI (i + 1)) := by
      show bc_X0_copyFrom_5_18_28 n (lc_X0_copyFrom_5_18_28 n k) γ (nI i) = _
      unfold bc_X0_copyFrom_5_18_28
      refine if_f (nI_ge (b := 8) (by omega) (by omega)) (ck_g (ib_nI (by omega) (by omega)) (sq_r (x1 := γ.2.2.1 20 i) (by rw [hci]) ?_))
      cases e : γ.2.2.1 20 i with
      | none => exact ck_g (ib_nI (by omega) (by omega)) (sq_r (x1 := cpp γ 7 i none) (by rw [hci]) (sq_r (nI_1 i) rfl))
      | some q => exact ck_g (hA i q e) (ck_g (ib_nI (by omega) (by omega)) (sq_r (x1 := cpp γ 7 i (some q)) (by rw [hci]) (sq_r (nI_1 i) rfl)))
    obtain ⟨γ1, r1, r2, r3, r4, r5, r6, r7⟩ := ih (i + 1) k (cpp γ 7 i (γ.2.2.1 20 i)) (by omega) (by omega) (fun j q h => by
      rw [cpp_3, if_neg (by omega)] at h
      exact hA j q h)
    refine ⟨γ1, key.trans (r1.trans (by rw [show k - (8 - (i + 1)) = k + 1 - (8 - i) by omega])), r2, r3, r4, fun a ha => (r5 a ha).trans (va_up_ne _ _ ha), fun j h1 h2 => ?_, fun j hj => ?_⟩
    · by_cases e : j = i
      · subst e
        rw [r7 j (by omega), cpp_3, if_pos ⟨rfl, rfl⟩]
      · rw [r6 j (by omega) h2, cpp_3, if_neg (by omega)]
    · rw [r7 j (by omega), cpp_3, if_neg (by omega)]
theorem cpI_5 (n : Nat) (k : Nat) {γ : CS} (h0 : zb (γ.1 25 0) = true) (h11 : zb (γ.1 18 11) = true) : ∃ γ1 D, lc_X0_copyFrom_5_18_28 n (k + 1) γ 8 = some (0, γ1) ∧ CK 18 5 γ γ1 D True ∧ ∀ c i, okC c i → D c i := by
  have hb : 18 + 12 < 5 ∨ 5 + 12 < 18 := by omega
  have K0 : CK 18 5 γ γ (fun _ _ => False) False := ⟨rfl, fun _ _ => rfl, fun _ _ => rfl, fun _ _ h => h.elim, fun h => h.elim⟩
  have K1 := CK_cpr hb 3 4 (a1 := 8) (a0 := 21) rfl rfl (by omega) (z := Int32.toNatClampNeg 0) (w := Int32.toNatClampNeg 0) (mm := Int32.toNatClampNeg 4) (by decide) (by decide) (by decide) K0
  have K2 := CK_cpr hb 4 4 (a1 := 9) (a0 := 22) rfl rfl (by omega) (z := Int32.toNatClampNeg 0) (w := Int32.toNatClampNeg 0) (mm := Int32.toNatClampNeg 4) (by decide) (by decide) (by decide) K1
  have K3 := CK_cpr hb 5 4 (a1 := 10) (a0 := 23) rfl rfl (by omega) (z := Int32.toNatClampNeg 0) (w := Int32.toNatClampNeg 0) (mm := Int32.toNatClampNeg 4) (by decide) (by decide) (by decide) K2
  have K4 := CK_cpr hb 6 4 (a1 := 11) (a0 := 24) rfl rfl (by omega) (z := Int32.toNatClampNeg 0) (w := Int32.toNatClampNeg 0) (mm := Int32.toNatClampNeg 4) (by decide) (by decide) (by decide) K3
  have K5 := CK_cp hb 7 0 (a1 := 12) (a0 := 25) rfl rfl (by omega) K4
  have K6 := CK_cp hb 7 1 (a1 := 12) (a0 := 25) rfl rfl (by omega) K5
  have K7 := CK_cp hb 7 2 (a1 := 12) (a0 := 25) rfl rfl (by omega) K6
  have K8 := CK_cp hb 7 3 (a1 := 12) (a0 := 25) rfl rfl (by omega) K7
  have K9 := CK_cp hb 7 4 (a1 := 12) (a0 := 25) rfl rfl (by omega) K8
  have K10 := CK_cp hb 7 5 (a1 := 12) (a0 := 25) rfl rfl (by omega) K9
  have K11 := CK_cp hb 7 6 (a1 := 12) (a0 := 25) rfl rfl (by omega) K10
  have K12 := CK_cp hb 7 7 (a1 := 12) (a0 := 25) rfl rfl (by omega) K11
  have K13 := CK_cpj hb (a1 := 12) (a0 := 25) rfl rfl K12
  have K14 := CK_cp hb 7 9 (a1 := 12) (a0 := 25) rfl rfl (by omega) K13
  have K15 := CK_cpr hb 8 8 (a1 := 13) (a0 := 26) rfl rfl (by omega) (z := Int32.toNatClampNeg 0) (w := Int32.toNatClampNeg 0) (mm := Int32.toNatClampNeg 8) (by decide) (by decide) (by decide) K14
  have K16 := CK_cpr hb 9 100 (a1 := 14) (a0 := 27) rfl rfl (by omega) (z := Int32.toNatClampNeg 0) (w := Int32.toNatClampNeg 0) (mm := Int32.toNatClampNeg 100) (by decide) (by decide) (by decide) K15
  have K17 := CK_cpr hb 10 100 (a1 := 15) (a0 := 28) rfl rfl (by omega) (z := Int32.toNatClampNeg 0) (w := Int32.toNatClampNeg 0) (mm := Int32.toNatClampNeg 100) (by decide) (by decide) (by decide) K16
  have K18 := CK_cpr hb 12 24 (a1 := 17) (a0 := 30) rfl rfl (by omega) (z := Int32.toNatClampNeg 0) (w := Int32.toNatClampNeg 0) (mm := Int32.toNatClampNeg 24) (by decide) (by decide) (by decide) K17
  have K19 := CK_cp hb 11 1 (a1 := 16) (a0 := 29) rfl rfl (by omega) K18
  have K20 := CK_cp hb 11 2 (a1 := 16) (a0 := 29) rfl rfl (by omega) K19
  have K21 := CK_cp hb 0 8 (a1 := 5) (a0 := 18) rfl rfl (by omega) K20
  have K22 := CK_cp hb 0 9 (a1 := 5) (a0 := 18) rfl rfl (by omega) K21
  have K23 := CK_cp hb 0 10 (a1 := 5) (a0 := 18) rfl rfl (by omega) K22
  have K24 := CK_cp hb 0 11 (a1 := 5) (a0 := 18) rfl rfl (by omega) K23
  have z0 := h0
  rw [← K4.2.1 25 (by omega)] at z0
  have z11 := h11
  rw [← K23.2.1 18 (by omega)] at z11
  refine ⟨_, _, ?_, K24, fun c i h => ?_⟩
  rotate_left
  · rcases h with ⟨rfl, h1, h2⟩ | ⟨h1, h2, h3⟩ | ⟨rfl, h1, h2⟩ | ⟨rfl, h1⟩ | ⟨h1, h2⟩ | ⟨rfl, h1⟩ | ⟨rfl, h1⟩
    · have hi : i = 8 ∨ i = 9 ∨ i = 10 ∨ i = 11 := by omega
      rcases hi with rfl | rfl | rfl | rfl <;> simp
    · have hc : c = 3 ∨ c = 4 ∨ c = 5 ∨ c = 6 := by omega
      rcases hc with rfl | rfl | rfl | rfl <;> simp [h3]
    · have hi : i = 0 ∨ i = 1 ∨ i = 2 ∨ i = 3 ∨ i = 4 ∨ i = 5 ∨ i = 6 ∨ i = 7 ∨ i = 9 := by omega
      rcases hi with rfl | rfl | rfl | rfl | rfl | rfl | rfl | rfl | rfl <;> simp
    · simp [h1]
    · rcases h1 with rfl | rfl <;> simp [h2]
    · rcases h1 with rfl | rfl <;> simp
    · simp [h1]
  show bc_X0_copyFrom_5_18_28 n (lc_X0_copyFrom_5_18_28 n k) γ 8 = _
  unfold bc_X0_copyFrom_5_18_28
  exact if_t (by decide) (sq_g (sq_g (sq_g (sq_g (bd_g (ck_g z0 (sq_g (sq_g (sq_g (sq_g (sq_g (sq_g (sq_g (sq_g (sq_g (sq_g (sq_g (sq_g (sq_g rfl)))))))))))))) (bd_g (sq_g (sq_g (sq_g rfl))) (sq_g (sq_g (sq_g (ck_g z11 (sq_g rfl)))))))))))
theorem cpA_5 (n : Nat) (hn : 1000 ≤ n) {γ : CS} (hA : ARr γ) (h0 : zb (γ.1 25 0) = true) (h11 : zb (γ.1 18 11) = true) : ∃ γ1, fc_X0_copyFrom_5_18 n γ = some (0, γ1) ∧ CV γ 18 γ1 5 ∧ γ1.2.2.2 = γ.2.2.2 ∧ (∀ a, (a < 5 ∨ 5 + 12 < a) → γ1.1 a = γ.1 a ∧ γ1.2.1 a = γ.2.1 a ∧ γ1.2.2.1 a = γ.2.2.1 a) ∧ (∀ a, a ≠ 6 → a ≠ 7 → γ1.2.2.1 a = γ.2.2.1 a) ∧ (∀ j, γ1.2.2.1 6 j = γ.2.2.1 19 j ∨ γ1.2.2.1 6 j = γ.2.2.1 6 j) ∧ (∀ j, γ1.2.2.1 7 j = γ.2.2.1 20 j ∨ γ1.2.2.1 7 j = γ.2.2.1 7 j) := by
  obtain ⟨γ1, r1, r2, r3, r4, r5, r6, r7⟩ := cpP_5 n 6 0 n γ (by omega) (by omega) (fun j q h => (hA j q).2.1 h)
  obtain ⟨γ2, s1, s2, s3, s4, s5, s6, s7⟩ := cpL_5 n 8 0 n γ1 (by omega) (by omega) (fun j q h => by
    rw [r5 _ (by decide)] at h
    have := (hA j q).2.2.2 h
    unfold pk at *
    rw [r4]; exact this)
  obtain ⟨γ3, D, t1, ⟨t2, t3, t4, t5, t6⟩, t7⟩ := cpI_5 n (n - 9) (γ := γ2) (by rw [s2, r2]; exact h0) (by rw [s2, r2]; exact h11)
  have eP : ∀ a, a ≠ 6 → a ≠ 7 → γ3.2.2.1 a = γ.2.2.1 a := fun a x y => by rw [t2, s5 a y, r5 a x]
  have e1 : ∀ j, γ3.2.2.1 6 j = γ1.2.2.1 6 j := fun j => by rw [t2, s5 _ (by decide)]
  have e2 : ∀ j, γ3.2.2.1 7 j = γ2.2.2.1 7 j := fun j => by rw [t2]
  have e22 : γ3.2.2.2 = γ.2.2.2 := by rw [t2, s4, r4]
  have eI : ∀ a, (a < 5 ∨ 5 + 12 < a) → γ3.1 a = γ.1 a := fun a ha => by rw [t3 a ha, s2, r2]
  refine ⟨γ3, ?_, ⟨fun q k hq => ?_, fun i hi => ?_, fun i hi => ?_, fun c i h => ?_, ?_⟩, e22, fun a ha => ⟨eI a ha, by rw [t4 a ha, s3, r3], eP a (by omega) (by omega)⟩, eP, fun j => ?_, fun j => ?_⟩
  · refine r1.trans (s1.trans ?_)
    have hk : n - 8 = (n - 9) + 1 := by omega
    rw [hk]
    exact t1
  · have q34 := (pk_s hq).1
    exact ⟨by unfold pk at *; rw [e22]; exact hq, by rw [e22], eP q (by omega) (by omega), fun _ => eI q (by omega)⟩
  · show γ3.2.2.1 6 i = γ.2.2.1 19 i
    rw [e1, r6 i (by omega) hi]
  · show γ3.2.2.1 7 i = γ.2.2.1 20 i
    rw [e2, s6 i (by omega) hi, r5 _ (by decide)]
  · rw [t5 c i (t7 c i h), s2, r2]
  · rw [t6 trivial, s3, r3]
  · by_cases h : j < 6
    · exact Or.inl (by rw [e1, r6 j (by omega) h])
    · exact Or.inr (by rw [e1, r7 j (by omega)])
  · by_cases h : j < 8
    · exact Or.inl (by rw [e2, s6 j (by omega) h, r5 _ (by decide)])
    · exact Or.inr (by rw [e2, s7 j (by omega), r5 _ (by decide)])
end
