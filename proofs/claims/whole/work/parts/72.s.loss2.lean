section
theorem loss_law (n : Nat) (hn : 100 ≤ n) {γ : CS} {μ : MS} (H : Rl γ μ) {np nl ng : Nat} (HB : RBn γ 5 (live μ) np nl ng) (hnl : nl ≤ 7) {kd f t : Nat} (hkd : kd ≤ 6) (hf : f ≤ 9999) (ht : t ≤ 9999) : OK (bc_X7_loss_82 n γ (nI kd) (nI f) (nI t)) (bm_loss_67 n μ (nI kd) (nI f) (nI t) 0) := by
  have b9 : γ.1 5 9 = nI nl := HB.2.2.1.1
  have b21 : μ.1 0 21 = nI nl := HB.2.2.1.2
  have H7 : ∀ i, i < nl → ∃ q a s cs fr kd f t, LSr γ 5 (live μ) i q a s cs fr kd f t := HB.2.2.2.2.2.2.1
  have H8 : (live μ).1 15 0 = 0 := HB.2.2.2.2.2.2.2.1
  obtain ⟨t0, ht0, e15⟩ := t0_at H8 H7 nl (Nat.le_refl _)
  have e15 : μ.1 15 nl = nI t0 := e15
  obtain ⟨L, B, hT, t1, t2, t3⟩ := txt_of H.2.2.2.2.1
  obtain ⟨n0, en0⟩ : ∃ z, z = γ.2.2.2.2.2 := ⟨_, rfl⟩
  have h34 : 34 ≤ n0 := by rw [en0]; exact H.1
  unfold bm_loss_67
  rcases readLaw_both n hn hT H.2.1 H.1 t1.1 t2 t1.2 t3 hnl b21 e15 ht0 with ⟨cs, γ1, μ1, q1, q2, q3, q4, q5, q6, q7, q8, q9⟩ | ⟨f, γ1, μ1, q1, q2, q3, q4, q5, q6, q7⟩
  · rw [← en0] at q1
    obtain ⟨g1, g2, g3, g4⟩ := lwN_f en0.symm h34 H.2.1 q2 rfl q3
    obtain ⟨γ2, e2⟩ : ∃ z, z = lwN γ1 cs.length := ⟨_, rfl⟩
    rw [← e2] at q1 g1 g2 g3 g4
    clear e2
    have e9 : γ2.1 5 9 = nI nl := by rw [g1.2.2.1 5 (by omega) (by decide) (by decide)]; exact b9
    have hc := c_82 n en0.symm g1.1 h34 g1.2.2.2.2.2 q1 hnl e9 (nI kd) (nI f) (nI t)
    obtain ⟨f1, f2, f3, f4, f5, f6, f7, f8, f9⟩ := nL_f g1.1 (by omega) g1.2.2.2.2.2 (q5 := n0) (by omega) (nI kd) (nI f) (nI t)
    obtain ⟨γ7, e7⟩ : ∃ z, z = nL γ2 (nI kd) (nI f) (nI t) n0 := ⟨_, rfl⟩
    rw [← e7] at hc f1 f2 f3 f4 f5 f6 f7 f8 f9
    clear e7
    -- the reference
    have k21 : (mp μ1 0 9 0).1 0 21 = nI nl := by rw [mp_1, if_neg (by omega), q7.2.2.1 21 (by decide) (by decide) (by decide) (by decide)]; exact b21
    have k21a : (mp (mp μ1 0 9 0) 10 nl (nI kd)).1 0 21 = nI nl := by rw [mp_ne _ _ _ _ (by decide)]; exact k21
    have k21b : (mp (mp (mp μ1 0 9 0) 10 nl (nI kd)) 11 nl (nI f)).1 0 21 = nI nl := by rw [mp_ne _ _ _ _ (by decide)]; exact k21a
    have k21c : (mp (mp (mp (mp μ1 0 9 0) 10 nl (nI kd)) 11 nl (nI f)) 12 nl (nI t)).1 0 21 = nI nl := by rw [mp_ne _ _ _ _ (by decide)]; exact k21b
    have k21d : (mp (mp (mp (mp (mp μ1 0 9 0) 10 nl (nI kd)) 11 nl (nI f)) 12 nl (nI t)) 13 nl 0).1 0 21 = nI nl := by rw [mp_ne _ _ _ _ (by decide)]; exact k21c
    have qi : ib (nI nl) 9 = true := ib_nI (by omega) (by omega)
    have qc : Int32.toNatClampNeg (nI nl) = nl := nI_clamp (by omega)
    have qc1 : Int32.toNatClampNeg (nI (nl + 1)) = nl + 1 := nI_clamp (by omega)
    obtain ⟨μ5, f5'⟩ : ∃ z, z = mp (mp (mp (mp (mp μ1 0 9 0) 10 nl (nI kd)) 11 nl (nI f)) 12 nl (nI t)) 13 nl 0 := ⟨_, rfl⟩
    obtain ⟨μ6, f6'⟩ : ∃ z, z = mp (mp μ5 0 21 (nI (nl + 1))) 15 (nl + 1) (nI (t0 + cs.length)) := ⟨_, rfl⟩
    have z22 : (mp μ5 0 21 (nI (nl + 1))).1 0 22 = nI (t0 + cs.length) := by
      rw [mp_1, if_neg (by omega), f5', mp_ne _ _ _ _ (by decide), mp_ne _ _ _ _ (by decide), mp_ne _ _ _ _ (by decide), mp_ne _ _ _ _ (by decide), mp_1, if_neg (by omega)]; exact q8
    have z21 : (mp μ5 0 21 (nI (nl + 1))).1 0 21 = nI (nl + 1) := by rw [mp_1, if_pos ⟨rfl, rfl⟩]
    have w21 : μ6.1 0 21 = nI (nl + 1) := by rw [f6', mp_ne _ _ _ _ (by decide)]; exact z21
    refine OK_cm hc (G1 := some (nI nl, μ6)) (if_t rfl (bd_g q6 (sq_g (if_f one_ne (ck_g (by rw [k21]; exact qi) (sq_r (x1 := mp (mp μ1 0 9 0) 10 nl (nI kd)) (by rw [k21, qc]) (ck_g (by rw [k21a]; exact qi) (sq_r (x1 := mp (mp (mp μ1 0 9 0) 10 nl (nI kd)) 11 nl (nI f)) (by rw [k21a, qc]) (ck_g (by rw [k21b]; exact qi) (sq_r (x1 := mp (mp (mp (mp μ1 0 9 0) 10 nl (nI kd)) 11 nl (nI f)) 12 nl (nI t)) (by rw [k21b, qc]) (ck_g (by rw [k21c]; exact qi) (sq_r (x1 := μ5) (by rw [f5', k21c, qc]) (sq_r (x1 := mp μ5 0 21 (nI (nl + 1))) (by rw [show μ5.1 0 21 = nI nl by rw [f5']; exact k21d, nI_1]) (ck_g (by rw [z21]; exact ib_nI (by omega) (by omega)) (sq_r (x1 := μ6) (by rw [f6', z21, qc1, z22]) (by rw [w21, nI_sub1])))))))))))))))) (OK_ret rfl ?_)
    have l0 : ∀ k, k ≠ 9 → k ≠ 10 → k ≠ 21 → k ≠ 22 → k ≠ 23 → k ≠ 24 → μ6.1 0 k = μ.1 0 k := fun k x1 x2 x3 x4 x5 x6 => by
      rw [f6', mp_ne _ _ _ _ (by decide), mp_1, if_neg (by omega), f5', mp_ne _ _ _ _ (by decide), mp_ne _ _ _ _ (by decide), mp_ne _ _ _ _ (by decide), mp_ne _ _ _ _ (by decide), mp_1, if_neg (by omega)]
      exact q7.2.2.1 k x2 x4 x5 x6
    have l9 : μ6.1 0 9 = 0 := by
      rw [f6', mp_ne _ _ _ _ (by decide), mp_1, if_neg (by omega), f5', mp_ne _ _ _ _ (by decide), mp_ne _ _ _ _ (by decide), mp_ne _ _ _ _ (by decide), mp_ne _ _ _ _ (by decide), mp_1, if_pos ⟨rfl, rfl⟩]
    have lR : ∀ a, a ≠ 0 → ¬ (10 ≤ a ∧ a ≤ 13) → a ≠ 15 → μ6.1 a = μ1.1 a := fun a x1 x2 x3 => by
      rw [f6', mp_ne _ _ _ _ x3, mp_ne _ _ _ _ x1, f5', mp_ne _ _ _ _ (by omega), mp_ne _ _ _ _ (by omega), mp_ne _ _ _ _ (by omega), mp_ne _ _ _ _ (by omega), mp_ne _ _ _ _ x1]
    have lA : ∀ a, a ≠ 0 → ¬ (10 ≤ a ∧ a ≤ 16) → μ6.1 a = μ.1 a := fun a x1 x2 => by
      rw [lR a x1 (by omega) (by omega)]; exact q7.2.1 a x1 (by omega) (by omega)
    have lK : ∀ a k, 10 ≤ a → a ≤ 13 → k ≠ nl → μ6.1 a k = μ.1 a k := fun a k x1 x2 x3 => by
      rw [f6', mp_ne _ _ _ _ (by omega), mp_ne _ _ _ _ (by omega), f5', mp_1, if_neg (by omega), mp_1, if_neg (by omega), mp_1, if_neg (by omega), mp_1, if_neg (by omega), mp_ne _ _ _ _ (by omega), q7.2.1 a (by omega) (by omega) (by omega)]
    have l10 : μ6.1 10 nl = nI kd := by
      rw [f6', mp_ne _ _ _ _ (by decide), mp_ne _ _ _ _ (by decide), f5', mp_ne _ _ _ _ (by decide), mp_ne _ _ _ _ (by decide), mp_ne _ _ _ _ (by decide), mp_1, if_pos ⟨rfl, rfl⟩]
    have l11 : μ6.1 11 nl = nI f := by
      rw [f6', mp_ne _ _ _ _ (by decide), mp_ne _ _ _ _ (by decide), f5', mp_ne _ _ _ _ (by decide), mp_ne _ _ _ _ (by decide), mp_1, if_pos ⟨rfl, rfl⟩]
    have l12 : μ6.1 12 nl = nI t := by
      rw [f6', mp_ne _ _ _ _ (by decide), mp_ne _ _ _ _ (by decide), f5', mp_ne _ _ _ _ (by decide), mp_1, if_pos ⟨rfl, rfl⟩]
    have l13 : μ6.1 13 nl = 0 := by
      rw [f6', mp_ne _ _ _ _ (by decide), mp_ne _ _ _ _ (by decide), f5', mp_1, if_pos ⟨rfl, rfl⟩]
    have l15 : ∀ k, k ≠ nl + 1 → μ6.1 15 k = μ.1 15 k := fun k hk => by
      rw [f6', mp_1, if_neg (by omega), mp_ne _ _ _ _ (by decide), f5', mp_ne _ _ _ _ (by decide), mp_ne _ _ _ _ (by decide), mp_ne _ _ _ _ (by decide), mp_ne _ _ _ _ (by decide), mp_ne _ _ _ _ (by decide), q7.2.1 15 (by decide) (by decide) (by decide)]
    have l15n : μ6.1 15 (nl + 1) = nI (t0 + cs.length) := by rw [f6', mp_1, if_pos ⟨rfl, rfl⟩]
    have l14 : μ6.1 14 = μ1.1 14 := lR 14 (by decide) (by omega) (by decide)
    have lJ : μ6.2 = μ.2 := by rw [f6', ← q7.1, f5']; rfl
    -- the class
    obtain ⟨γ8, e8⟩ : ∃ z, z = cp (cpp γ7 7 nl (some (n0 + 1))) 5 9 (nI (nl + 1)) := ⟨_, rfl⟩
    rw [← e8]
    have i8 : ∀ a, a ≠ 1 → a ≠ 3 → a ≠ 5 → a < n0 → γ8.1 a = γ.1 a := fun a x1 x2 x3 x4 => by
      rw [e8, cp_ne _ _ _ _ x3, cpp_1, f1.2.2.1 a (by omega) x1 x2, g1.2.2.1 a x4 x1 x2]
    have i7 : ∀ a, a ≠ 5 → γ8.1 a = γ7.1 a := fun a x => by rw [e8, cp_ne _ _ _ _ x, cpp_1]
    have i5 : ∀ k, k ≠ 9 → γ8.1 5 k = γ.1 5 k := fun k hk => by
      rw [e8, cp_1, if_neg (by omega), cpp_1, f1.2.2.1 5 (by omega) (by decide) (by decide), g1.2.2.1 5 (by omega) (by decide) (by decide)]
    have i59 : γ8.1 5 9 = nI (nl + 1) := by rw [e8, cp_1, if_pos ⟨rfl, rfl⟩]
    have j8 : γ8.2.1 = γ.2.1 := by
      rw [← g1.2.1, ← f1.2.1, e8]; rfl
    have p8 : ∀ a, a ≠ 7 → γ8.2.2.1 a = γ7.2.2.1 a := fun a ha => by rw [e8]; exact va_up_ne _ _ ha
    have pO : ∀ a, a ≠ 7 → a < n0 → γ8.2.2.1 a = γ.2.2.1 a := fun a x y => by rw [p8 a x, f1.2.2.2.1 a (by omega), g1.2.2.2.1 a y]
    have p7 : ∀ j, j ≠ nl → γ8.2.2.1 7 j = γ.2.2.1 7 j := fun j hj => by
      rw [← g1.2.2.2.1 7 (by omega), ← f1.2.2.2.1 7 (by omega), e8]
      show (cpp γ7 7 nl (some (n0 + 1))).2.2.1 7 j = _
      rw [cpp_3, if_neg (by omega)]
    have p7n : γ8.2.2.1 7 nl = some (n0 + 1) := by
      rw [e8]
      show (cpp γ7 7 nl (some (n0 + 1))).2.2.1 7 nl = _
      rw [cpp_3, if_pos ⟨rfl, rfl⟩]
    have k8 : γ8.2.2.2 = γ7.2.2.2 := by rw [e8]; rfl
    have pk8 : ∀ q k, pk γ8 q k = pk γ7 q k := fun q k => by unfold pk; rw [k8]
    have PO2 : PO γ γ2 := NS_PO en0.symm g1
    have PO7 : PO γ2 γ7 := NS_PO g1.1 f1
    have PO8 : PO γ7 γ8 := fun q k hq => by
      obtain ⟨x1, x2, x3⟩ := pk_s hq
      exact ⟨by rw [pk8]; exact hq, by rw [k8], p8 q (by omega), fun _ => i7 q (by omega)⟩
    have hPO : PO γ γ8 := (PO2.tr PO7).tr PO8
    have hn8 : γ8.2.2.2.2.2 = n0 + 1 + 2 := by rw [k8]; exact f1.1
    refine Rl_gr H (by rw [hn8]; omega) ?_ ?_ hPO (fun a x y => i8 a (by omega) (by omega) (by omega) (by omega)) (pO 19 (by decide) (by omega)) (pO 20 (by decide) (by omega)) (by rw [j8]) (lA 24 (by decide) (by omega)) (by rw [lJ]) (by rw [i8 0 (by decide) (by decide) (by decide) (by omega)]) (l0 54 (by decide) (by decide) (by decide) (by decide) (by decide) (by decide)) (TXr_0 (by rw [i7 1 (by decide)]; exact f9) l9) (i8 4 (by decide) (by decide) (by decide) (by omega)) (lA 1 (by decide) (by omega)) ⟨np, nl + 1, ng, ?_⟩
    · have hw8 : cwf (cpp γ7 7 nl (some (n0 + 1))) := cwf_cpp f1.2.2.2.2.2 (by rw [f1.1]; omega) _ _
      rw [e8]
      exact hw8
    · intro i q
      obtain ⟨x1, x2, x3, x4⟩ := H.2.2.1 i q
      refine ⟨fun hq => ?_, fun hq => ?_, fun hq => ?_, fun hq => ?_⟩
      · rw [pO 6 (by decide) (by omega)] at hq
        exact (hPO q 3 (x1 hq)).1
      · rw [pO 19 (by decide) (by omega)] at hq
        exact (hPO q 3 (x2 hq)).1
      · by_cases c2 : i = nl
        · subst c2
          rw [p7n] at hq
          cases hq
          rw [pk8]; exact f5
        · rw [p7 i c2] at hq
          exact (hPO q 1 (x3 hq)).1
      · rw [pO 20 (by decide) (by omega)] at hq
        exact (hPO q 1 (x4 hq)).1
    · refine RBn_gr HB (Nat.le_refl _) HB.1.1 (by omega) (by omega) hPO (fun i _ => by rw [pO 6 (by decide) (by omega)]) (fun i hi => p7 i (by omega)) (fun c x y => i8 _ (by omega) (by omega) (by omega) (by omega)) (by rw [j8]) (by rw [i5 8 (by decide)]; exact HB.2.1.1) i59 (i5 10 (by decide)) (i5 11 (by decide)) ((l0 11 (by decide) (by decide) (by decide) (by decide) (by decide) (by decide)).trans HB.2.1.2) w21 (fun k x y z => l0 k (by unfold okS at x; omega) (by unfold okS at x; omega) z (by unfold okS at x; omega) (by unfold okS at x; omega) (by unfold okS at x; omega)) (by show μ6.2 46 = μ.2 46; rw [lJ]) (fun a k x y z => by show μ6.1 a k = μ.1 a k; rw [lA a (by omega) (by omega)]) (fun a k x y z => lK a k x y (by omega)) (fun k x y => ?_) (fun t0' x y k hk => ?_) (fun k hk => l15 k (by omega)) (fun a ha => lA a (by omega) (by omega)) (fun i x y => absurd y (by omega)) (fun i x y => ?_)
      · obtain rfl : k = nl := by omega
        exact l13
      · show μ6.1 14 k = μ.1 14 k
        rw [l14]
        have e : t0' = t0 := (nI_eq (by omega) (by omega)).mp ((show μ.1 15 nl = nI t0' from y).symm.trans e15)
        exact q7.2.2.2 k (by omega)
      · obtain rfl : i = nl := by omega
        have g4' : ∀ k, k < cs.length → γ8.1 n0 k = cs.getD k 0 := fun k hk => by
          rw [i7 n0 (by omega), f1.2.2.1 n0 (by omega) (by omega) (by omega)]; exact g4 k hk
        have g2' : pk γ8 n0 9 = true := by rw [pk8]; exact (PO7 n0 9 g2).1
        have g3' : γ8.2.2.2.2.1 n0 = cs.length := by rw [k8, (f1.2.2.2.2.1 n0 (by omega)).2]; exact g3
        refine ⟨n0 + 1, n0, n0 + 1 + 1, cs, t0, kd, f, t, p7n, ⟨by rw [pk8]; exact f5, by rw [k8]; exact f7, by rw [p8 _ (by omega)]; exact f3, g2', by rw [p8 _ (by omega)]; exact f4, by rw [pk8]; exact f6, g3', by rw [k8]; exact f8, q4, q5, g4'⟩, ⟨?_, l15n, by omega, fun k hk => ?_⟩, by rw [i7 _ (by omega)]; exact f2, ⟨l10, l11, l12⟩, hkd, hf, ht⟩
        · show μ6.1 15 i = nI t0
          rw [l15 i (by omega)]; exact e15
        · show tkc (μ6.1 14 (t0 + k)) _
          rw [l14]; exact q9 k hk
  · refine OK_cm (F1 := some (-20 - nI f, cp γ1 1 2 0)) (G1 := some (-20 - nI f, mp μ1 0 9 0)) ?_ (if_t rfl (bd_g q5 (sq_g (if_t rfl (by rw [mp_1, if_neg (by omega), q7]))))) ?_
    · unfold bc_X7_loss_82
      exact bd_g q2 (ck_g (le_TX q3.1) (oc_gn rfl (sq_g (by rw [cp_1, if_neg (by omega), q4]))))
    · refine OK_ret rfl (Rl_fault H q3 (fun a x y z => q6.2.1 a (by omega) y z) (fun np' nl' ng' HB' t0' x y k hk => ?_) (fun k hk => q6.2.2.1 k (by unfold okS at hk; omega) (by unfold okS at hk; omega) (by unfold okS at hk; omega) (by unfold okS at hk; omega)) q6.1 (q6.2.2.1 54 (by decide) (by decide) (by decide) (by decide)) (q6.2.1 1 (by decide) (by decide) (by decide)))
      have h8 := HB'.1.2.1
      have en : nl' = nl := (nI_eq (by omega) (by omega)).mp ((show μ.1 0 21 = nI nl' from HB'.2.2.1.2).symm.trans b21)
      subst en
      have e : t0' = t0 := (nI_eq (by omega) (by omega)).mp (y.symm.trans e15)
      exact q6.2.2.2 k (by omega)
theorem s_loss (n : Nat) (hn : 100 ≤ n) : st_loss n Rl := by
  intro γ μ x1 x2 x3 H
  show OK _ _
  obtain ⟨np, nl, ng, HB⟩ := id H.2.2.2.1
  have b9 : γ.1 5 9 = nI nl := HB.2.2.1.1
  have b21 : μ.1 0 21 = nI nl := HB.2.2.1.2
  have hnl := HB.1.2.1
  unfold fc_X7_loss fm_loss
  by_cases c1 : x1 < 0
  · exact OK_cm (if_t c1 rfl) (bd_g (a := 0) (b := μ) (if_t c1 rfl) (if_t rfl rfl)) (OK_noA 1 H (by decide) (by decide))
  by_cases c2 : x1 ≤ 6
  case neg => exact OK_cm (if_f c1 (if_f c2 rfl)) (bd_g (a := 0) (b := μ) (if_f c1 (if_t (nle_gt c2) rfl)) (if_t rfl rfl)) (OK_noA 1 H (by decide) (by decide))
  have hin : fm_isIn n μ x1 0 6 = some (1, μ) := if_f c1 (if_f (ge_nlt c2) rfl)
  have h67 : ∀ w : Int32, ¬ w = 0 → bm_loss_67 n μ x1 x2 x3 w = bd (fm_no n μ w) (fun r s => some (r, s)) := fun w hw => by
    unfold bm_loss_67
    exact if_f hw rfl
  have h47 : ∀ w : Int32, ¬ w = 0 → bm_loss_47 n μ x1 x2 x3 w = bd (fm_no n μ w) (fun r s => some (r, s)) := fun w hw => by
    unfold bm_loss_47
    exact if_f hw (h67 w hw)
  refine OK_cm (if_f c1 (if_t c2 rfl)) (bd_g hin (if_f one_ne rfl)) ?_
  have n4 : ¬ (-4 : Int32) = 0 := by decide
  have n6 : ¬ (-6 : Int32) = 0 := by decide
  have n3 : ¬ (-3 : Int32) = 0 := by decide
  by_cases c3 : x2 < 0
  · exact OK_cm (if_t c3 rfl) (bd_g (a := -4) (b := μ) (if_t c3 rfl) (if_f n4 (h47 _ n4))) (OK_noA 4 H (by decide) (by decide))
  by_cases c4 : 0 ≤ x3
  case neg => exact OK_cm (if_f c3 (if_f c4 rfl)) (bd_g (a := -4) (b := μ) (if_f c3 (if_f c4 rfl)) (if_f n4 (h47 _ n4))) (OK_noA 4 H (by decide) (by decide))
  by_cases c5 : 9999 < x2
  · exact OK_cm (if_f c3 (if_t c4 (if_t c5 rfl))) (bd_g (a := -6) (b := μ) (if_f c3 (if_t c4 (if_t c5 rfl))) (if_f n6 (h47 _ n6))) (OK_noA 6 H (by decide) (by decide))
  by_cases c6 : 9999 < x3
  · exact OK_cm (if_f c3 (if_t c4 (if_f c5 (if_t c6 rfl)))) (bd_g (a := -6) (b := μ) (if_f c3 (if_t c4 (if_f c5 (if_f (gt_nle c6) rfl)))) (if_f n6 (h47 _ n6))) (OK_noA 6 H (by decide) (by decide))
  have hbn : fm_bounds n μ x2 9999 x3 9999 = some (0, μ) := if_f c3 (if_t c4 (if_f c5 (if_t (nlt_ge c6) rfl)))
  refine OK_cm (if_f c3 (if_t c4 (if_f c5 (if_f c6 rfl)))) (bd_g hbn (if_t rfl rfl)) ?_
  by_cases c7 : nl = 8
  · subst c7
    exact OK_cm (if_f (by rw [b9]; exact nI_nlt (a := 8) (b := 8) (by omega) (by omega)) rfl) (if_t b21 (sq_g (h47 _ n6))) (OK_noA 6 H (by decide) (by decide))
  refine OK_cm (if_t (by rw [b9]; exact nI_lt (b := 8) (by omega) (by omega)) rfl) (if_f (by rw [b21]; exact fun h => c7 ((nI_eq (b := 8) (by omega) (by omega)).mp h)) rfl) ?_
  obtain ⟨kd, hkd, rfl⟩ := in0 (b := 6) (by omega) (nlt_ge c1) c2
  obtain ⟨f, hf, rfl⟩ := in0 (b := 9999) (by omega) (nlt_ge c3) (nlt_ge c5)
  obtain ⟨t, ht, rfl⟩ := in0 (b := 9999) (by omega) c4 (nlt_ge c6)
  have hlaw := loss_law n hn H HB (by omega) hkd hf ht
  unfold bm_loss_47
  by_cases c8 : nI kd = 6
  · by_cases c9 : nI f ≤ nI t
    · exact OK_cm (if_t c8 (if_t c9 rfl)) (if_t rfl (if_t c8 (if_t c9 rfl))) hlaw
    · exact OK_cm (if_t c8 (if_f c9 rfl)) (if_t rfl (if_t c8 (if_f c9 (sq_g (h67 _ n3))))) (OK_noA 3 H (by decide) (by decide))
  · exact OK_cm (if_f c8 rfl) (if_t rfl (if_f c8 rfl)) hlaw
end
