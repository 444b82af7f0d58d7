section
/-! floors one behind the other -/
theorem leg_109 (n : Nat) (K : MS → Int32 → Int32 → Option (Int32 × MS)) (μ : MS) {i f : Nat} (x5 : Int32) (hi : i < 4) (h22 : μ.1 22 i = nI f) : bm_legs_109 n K μ (nI i) x5 = bm_legs_109 n K (mp μ 0 27 (nI f)) (nI i) x5 := by
  have hib : ib (nI i) 4 = true := ib_nI hi (by omega)
  have hci : Int32.toNatClampNeg (nI i) = i := nI_clamp (by omega)
  have e1 : μ.1 22 (Int32.toNatClampNeg (nI i)) = nI f := by rw [hci]; exact h22
  have e2 : (mp μ 0 27 (nI f)).1 22 (Int32.toNatClampNeg (nI i)) = nI f := by rw [mp_ne _ _ _ _ (by decide)]; exact e1
  have e3 : mp (mp μ 0 27 (nI f)) 0 27 (nI f) = mp μ 0 27 (nI f) := by
    have := mp_same (mp μ 0 27 (nI f)) 0 27
    rw [mp_1, if_pos ⟨rfl, rfl⟩] at this
    exact this
  have l : bm_legs_109 n K μ (nI i) x5 = bd (fm_goes n (mp μ 0 27 (nI f)) 1) (fun r4 σ5 => sq (mp σ5 0 35 r4) (fun σ6 => if (x5 ≤ 0) then (sq ((x5 - 0) : Int32) (fun y8 => K σ6 (nI i) y8)) else (sq ((x5 - 1) : Int32) (fun y9 => K σ6 (nI i) y9)))) := ck_g hib (sq_r e1 (sq_g rfl))
  have r : bm_legs_109 n K (mp μ 0 27 (nI f)) (nI i) x5 = bd (fm_goes n (mp μ 0 27 (nI f)) 1) (fun r4 σ5 => sq (mp σ5 0 35 r4) (fun σ6 => if (x5 ≤ 0) then (sq ((x5 - 0) : Int32) (fun y8 => K σ6 (nI i) y8)) else (sq ((x5 - 1) : Int32) (fun y9 => K σ6 (nI i) y9)))) := ck_g hib (sq_r e2 (sq_r e3 rfl))
  exact l.trans r.symm
/-- on one floor: the class runs to U, the reference ticks on -/
theorem leg_run (n : Nat) (hn : 21 ≤ n) {nl p f i ng U : Nat} (hi : i < ng) (hng : ng ≤ 4) (hU : U ≤ 9999) : ∀ (m : Nat) (γ : CS) (μ : MS) (lean tick left k : Nat), JR γ μ nl p f lean tick 1 0 → μ.1 22 i = nI f → μ.1 0 52 = nI ng → tick + m + 1 = U → (i + 1 = ng ∨ tick + left = U) → left ≤ 999 → 10000 ≤ tick + 1 + k → ∃ γ1 μ1 lean1 tick1 en1 left1 k1 m1, m1 ≤ m + 1 ∧ RT n γ U γ1 m1 ∧ bm_legs_109 n (lm_legs_74 n k) μ (nI i) (nI left) = lm_legs_74 n k1 μ1 (nI i) (nI left1) ∧ JR γ1 μ1 nl p f lean1 tick1 1 en1 ∧ μ1.1 0 35 = nI en1 ∧ (en1 ≠ 0 ∨ (tick1 = U ∧ (i + 1 = ng ∨ left1 = 0))) ∧ 10000 ≤ tick1 + k1 ∧ tick1 ≤ U ∧ CG γ γ1 ∧ ME μ μ1 := by
  intro m
  induction m with
  | zero =>
    intro γ μ lean tick left k hJ h22 h52 hm hor hle hk
    obtain ⟨γ1, μ1, V, kd, X, lean1, en1, hT1, hJ1⟩ := JR_step n hn hJ (by omega) (by omega)
    have hib : ib (nI i) 4 = true := ib_nI (by omega) (by omega)
    have hci : Int32.toNatClampNeg (nI i) = i := nI_clamp (by omega)
    have e1 : μ.1 22 (Int32.toNatClampNeg (nI i)) = nI f := by rw [hci]; exact h22
    obtain ⟨d, t, hh, a1, a2, a3, a4⟩ := hJ.2.1
    have e3 : mp μ 0 27 (nI f) = μ := by
      have := mp_same μ 0 27
      rw [a3.2.2.1] at this
      exact this
    have hen := hJ1.2.2.2.2.1
    have e35 : (mp μ1 0 35 (nI en1)).1 0 35 = nI en1 := by rw [mp_1, if_pos ⟨rfl, rfl⟩]
    have hM : ME μ (mp μ1 0 35 (nI en1)) := ME.tr hT1.2.2.2.1 (ME_mp0 (by omega) _)
    refine ⟨γ1, mp μ1 0 35 (nI en1), lean1, tick + 1, en1, left - 1, k, 0 + 1, by omega, RT_step (JR_c5 hJ) hJ.2.2.1 (by omega) (by omega) hT1.1 (RT_stop (JR_c5 hJ1) hJ1.2.2.1 (by omega) (by omega) (Or.inl (by omega))), ?_, JR_35 hJ1 _, e35, Or.inr ⟨by omega, by omega⟩, by omega, by omega, TB_CG hT1, hM⟩
    refine ck_g hib (sq_r e1 (sq_r e3 (bd_g hT1.2.1 (sq_g ?_))))
    by_cases c0 : left = 0
    · subst c0
      exact if_t (by decide) (sq_r (x1 := nI (0 - 1)) (by decide) rfl)
    · obtain ⟨l, rfl⟩ : ∃ l, left = l + 1 := ⟨left - 1, by omega⟩
      exact if_f (nI_nle (by omega) (by omega)) (sq_r (x1 := nI (l + 1 - 1)) (nI_pred l) rfl)
  | succ m ih =>
    intro γ μ lean tick left k hJ h22 h52 hm hor hle hk
    obtain ⟨γ1, μ1, V, kd, X, lean1, en1, hT1, hJ1⟩ := JR_step n hn hJ (by omega) (by omega)
    have hib : ib (nI i) 4 = true := ib_nI (by omega) (by omega)
    have hci : Int32.toNatClampNeg (nI i) = i := nI_clamp (by omega)
    have e1 : μ.1 22 (Int32.toNatClampNeg (nI i)) = nI f := by rw [hci]; exact h22
    obtain ⟨d, t, hh, a1, a2, a3, a4⟩ := hJ.2.1
    have e3 : mp μ 0 27 (nI f) = μ := by
      have := mp_same μ 0 27
      rw [a3.2.2.1] at this
      exact this
    have hen := hJ1.2.2.2.2.1
    have e35 : (mp μ1 0 35 (nI en1)).1 0 35 = nI en1 := by rw [mp_1, if_pos ⟨rfl, rfl⟩]
    have hM : ME μ (mp μ1 0 35 (nI en1)) := ME.tr hT1.2.2.2.1 (ME_mp0 (by omega) _)
    have estep : bm_legs_109 n (lm_legs_74 n k) μ (nI i) (nI left) = lm_legs_74 n k (mp μ1 0 35 (nI en1)) (nI i) (nI (left - 1)) := by
      refine ck_g hib (sq_r e1 (sq_r e3 (bd_g hT1.2.1 (sq_g ?_))))
      by_cases c0 : left = 0
      · subst c0
        exact if_t (by decide) (sq_r (x1 := nI (0 - 1)) (by decide) rfl)
      · obtain ⟨l, rfl⟩ : ∃ l, left = l + 1 := ⟨left - 1, by omega⟩
        exact if_f (nI_nle (by omega) (by omega)) (sq_r (x1 := nI (l + 1 - 1)) (nI_pred l) rfl)
    by_cases he : en1 = 0
    · subst he
      have ht := hJ1.2.2.2.1 rfl
      obtain ⟨k, rfl⟩ : ∃ k', k = k' + 1 := ⟨k - 1, by omega⟩
      have h22' : (mp μ1 0 35 (nI 0)).1 22 i = nI f := by rw [hM.2.1 22 (by decide) (by decide) (by decide)]; exact h22
      have h52' : (mp μ1 0 35 (nI 0)).1 0 52 = nI ng := by rw [hM.2.2 52 (by omega)]; exact h52
      obtain ⟨γ2, μ2, lean2, tick2, en2, left2, k2, m2, r0, r1, r2, r3, r4, r5, r6, r7, r8, r9⟩ := ih γ1 (mp μ1 0 35 (nI 0)) lean1 (tick + 1) (left - 1) k (JR_35 hJ1 _) h22' h52' (by omega) (by omega) (by omega) (by omega)
      refine ⟨γ2, μ2, lean2, tick2, en2, left2, k2, m2 + 1, by omega, RT_step (JR_c5 hJ) hJ.2.2.1 (by omega) (by omega) hT1.1 r1, ?_, r3, r4, r5, r6, r7, CG.tr (TB_CG hT1) r8, ME.tr hM r9⟩
      refine estep.trans (Eq.trans ?_ r2)
      show bm_legs_74 n (lm_legs_74 n k) (mp μ1 0 35 (nI 0)) (nI i) (nI (left - 1)) = _
      unfold bm_legs_74
      refine if_t e35 ?_
      by_cases c0 : left - 1 = 0
      · rw [c0]
        refine if_t rfl (if_t ?_ rfl)
        rw [h52', show ng = (ng - 1) + 1 by omega, nI_pred]
        exact nI_le (by omega) (by omega)
      · exact if_f (nI_ne0 (by omega) (by omega)) rfl
    · exact ⟨γ1, mp μ1 0 35 (nI en1), lean1, tick + 1, en1, left - 1, k, 0 + 1, by omega, RT_step (JR_c5 hJ) hJ.2.2.1 (by omega) (by omega) hT1.1 (RT_stop (JR_c5 hJ1) hJ1.2.2.1 (by omega) (by omega) (Or.inr he)), estep, JR_35 hJ1 _, e35, Or.inl he, by omega, by omega, TB_CG hT1, hM⟩
/-- it has ended: the class passes over the legs that are left -/
theorem legs_done (n : Nat) (hn : 21 ≤ n) {ng tk en : Nat} (hng : ng ≤ 4) (htk : tk < 2 ^ 31) (hen0 : en ≠ 0) (hen : en ≤ 4) : ∀ (m i k : Nat) (γ : CS) (u : Int32), i + m = ng → m < k → γ.1 5 10 = nI ng → γ.1 31 5 = nI tk → γ.1 31 6 = nI en → (∀ j, j < ng → ∃ f t : Nat, f < 4 ∧ γ.1 10 j = nI f ∧ γ.1 11 j = nI t) → (∀ f, f < 4 → ∃ h t : Nat, γ.1 8 f = nI h ∧ γ.1 9 f = nI t) → (∃ uu : Nat, u = nI uu) → ∃ γ1, lc_X7_ticksByLegs_15 n k γ u (nI i) = some (nI tk, γ1) ∧ CG γ γ1 := by
  intro m
  induction m with
  | zero =>
    intro i k γ u hi hk h10 h5 h6 hlg hfl hu
    obtain ⟨k, rfl⟩ : ∃ k', k = k' + 1 := ⟨k - 1, by omega⟩
    exact ⟨γ, if_t (by rw [h10]; exact nI_le (by omega) (by omega)) (by rw [h5]), CG.rf γ⟩
  | succ m ih =>
    intro i k γ u hi hk h10 h5 h6 hlg hfl hu
    obtain ⟨k, rfl⟩ : ∃ k', k = k' + 1 := ⟨k - 1, by omega⟩
    obtain ⟨uu, rfl⟩ := hu
    obtain ⟨f, t, hf, q1, q2⟩ := hlg i (by omega)
    obtain ⟨hh, tt, q3, q4⟩ := hfl f hf
    have hib : ib (nI i) 4 = true := ib_nI (by omega) (by omega)
    have hci : Int32.toNatClampNeg (nI i) = i := nI_clamp (by omega)
    have hL := layOn_eq n γ hf q3 q4
    have hrow : ∀ a, a ≠ 32 → (cp (cp γ 32 6 (nI hh)) 32 7 (nI tt)).1 a = γ.1 a := fun a ha => by rw [cp_ne _ _ _ _ ha, cp_ne _ _ _ _ ha]
    have hCG : CG γ (cp (cp γ 32 6 (nI hh)) 32 7 (nI tt)) := CG.tr (CG_cp (by omega) _ _) (CG_cp (by omega) _ _)
    have hrun : ∀ T : Nat, fc_X2_runTo n (cp (cp γ 32 6 (nI hh)) 32 7 (nI tt)) (nI T) = some (0, cp (cp γ 32 6 (nI hh)) 32 7 (nI tt)) := fun T => RT_run (m := 0) (by omega) (by omega) (RT_stop (by rw [hrow 31 (by decide)]; exact h5) (by rw [hrow 31 (by decide)]; exact h6) htk (by omega) (Or.inr hen0))
    have hrec : ∀ T : Nat, ∃ γ1, lc_X7_ticksByLegs_15 n k (cp (cp γ 32 6 (nI hh)) 32 7 (nI tt)) (nI T) (nI (i + 1)) = some (nI tk, γ1) ∧ CG (cp (cp γ 32 6 (nI hh)) 32 7 (nI tt)) γ1 := fun T => ih (i + 1) k _ (nI T) (by omega) (by omega) (by rw [hrow 5 (by decide)]; exact h10) (by rw [hrow 31 (by decide)]; exact h5) (by rw [hrow 31 (by decide)]; exact h6) (by rw [hrow 10 (by decide), hrow 11 (by decide)]; exact hlg) (by rw [hrow 8 (by decide), hrow 9 (by decide)]; exact hfl) ⟨T, rfl⟩
    have h77 : ∀ T : Nat, ∃ γ1, bc_X7_ticksByLegs_77 n (lc_X7_ticksByLegs_15 n k) γ (nI i) (nI T) = some (nI tk, γ1) ∧ CG γ γ1 := fun T => by
      obtain ⟨γ1, v1, v2⟩ := hrec T
      exact ⟨γ1, ck_g hib (sq_r (by rw [hci]; exact q1) (bd_g hL (bd_g (hrun T) (sq_r (nI_1 i) v1)))), CG.tr hCG v2⟩
    have hne1 : ¬ γ.1 5 10 ≤ nI i := by rw [h10]; exact nI_ge (by omega) (by omega)
    have hne2 : ¬ (4 : Int32) ≤ nI i := nI_ge (b := 4) (by omega) (by omega)
    have ep : γ.1 5 10 - 1 = nI (ng - 1) := by
      rw [h10, show ng = (ng - 1) + 1 by omega, nI_pred]
      congr 1
    by_cases cl : i + 1 = ng
    · obtain ⟨γ1, v1, v2⟩ := h77 9999
      exact ⟨γ1, if_f hne1 (if_f hne2 (if_t (by rw [ep]; congr 1; omega) (if_f one_ne v1))), v2⟩
    · obtain ⟨γ1, v1, v2⟩ := h77 (uu + t)
      have h2 : γ.1 11 (Int32.toNatClampNeg (nI i)) = nI t := by rw [hci]; exact q2
      exact ⟨γ1, if_f hne1 (if_f hne2 (if_f (by rw [ep]; exact fun h => absurd ((nI_eq (by omega) (by omega)).mp h) (by omega)) (if_t rfl (ck_g hib (sq_r h2 (by rw [nI_add]; exact v1)))))), v2⟩
theorem legs_loop (n : Nat) (hn : 21 ≤ n) {γ0 : CS} {μ0 : MS} {np nl ng p : Nat} (hn1 : 10000 ≤ n) (HB0 : RBn γ0 5 (live μ0) np nl ng) : ∀ (m i k kc : Nat) (γ : CS) (μ : MS) (f lean tick : Nat), i + (m + 1) = ng → m + 1 < kc → 10000 ≤ tick + 1 + k → EN γ0 μ0 γ μ → JR γ μ nl p f lean tick 1 0 → tick ≤ 999 * i → ∃ r γ1 μ1, lc_X7_ticksByLegs_15 n kc γ (nI tick) (nI i) = some (r, γ1) ∧ bm_legs_109 n (lm_legs_74 n k) μ (nI i) (μ.1 23 i) = some (r, mp μ1 0 52 0) ∧ EN γ0 μ0 γ1 μ1 := by
  have hng := HB0.1.2.2
  intro m
  induction m with
  | zero =>
    intro i k kc γ μ f lean tick hi hkc hk hE hJ htk
    obtain ⟨kc, rfl⟩ : ∃ k', kc = k' + 1 := ⟨kc - 1, by omega⟩
    have HB := EN_HB hE HB0
    have h10 : γ.1 5 10 = nI ng := HB.2.2.2.1.1
    have h52 : μ.1 0 52 = nI ng := HB.2.2.2.1.2
    obtain ⟨f1, t1, k1, k2, k3, ⟨l1, l2⟩, l3, l4⟩ := HB.2.2.2.2.2.2.2.2.2.1 i (by omega)
    have l1 : γ.1 10 i = nI f1 := l1
    have l2 : μ.1 22 i = nI f1 := l2
    have l3 : γ.1 11 i = nI t1 := l3
    have l4 : μ.1 23 i = nI t1 := l4
    obtain ⟨hh, tt, b1, b2, ⟨b3, b4⟩, b5, b6⟩ := HB.2.2.2.2.2.2.2.2.1 f1 k1
    have b3 : γ.1 8 f1 = nI hh := b3
    have b4 : μ.1 8 f1 = nI hh := b4
    have b5 : γ.1 9 f1 = nI tt := b5
    have b6 : μ.1 9 f1 = nI tt := b6
    have hib : ib (nI i) 4 = true := ib_nI (by omega) (by omega)
    have hci : Int32.toNatClampNeg (nI i) = i := nI_clamp (by omega)
    have hL := layOn_eq n γ k1 b3 b5
    have hCG : CG γ (cp (cp γ 32 6 (nI hh)) 32 7 (nI tt)) := CG.tr (CG_cp (by omega) _ _) (CG_cp (by omega) _ _)
    have hME : ME μ (mp μ 0 27 (nI f1)) := ME_mp0 (by omega) _
    have hE1 : EN γ0 μ0 (cp (cp γ 32 6 (nI hh)) 32 7 (nI tt)) (mp μ 0 27 (nI f1)) := EN.tr hE ⟨hCG, hME⟩
    have ht := hJ.2.2.2.1 rfl
    have hJ1 : JR (cp (cp γ 32 6 (nI hh)) 32 7 (nI tt)) (mp μ 0 27 (nI f1)) nl p f1 lean tick 1 0 := ⟨LL_eng hCG.1 hME hJ.1, MR_floor hJ.2.1 k1 b1 b4 b6, by rw [cp_ne _ _ _ _ (by decide), cp_ne _ _ _ _ (by decide)]; exact hJ.2.2.1, hJ.2.2.2⟩
    have l2' : (mp μ 0 27 (nI f1)).1 22 i = nI f1 := by rw [mp_ne _ _ _ _ (by decide)]; exact l2
    have h52' : (mp μ 0 27 (nI f1)).1 0 52 = nI ng := by rw [mp_1, if_neg (by omega)]; exact h52
    obtain ⟨γ2, μ2, lean2, tick2, en2, left2, kk2, m2, r0, r1, r2, r3, r4, r5, r6, r7, r8, r9⟩ := leg_run n hn (show i < ng by omega) hng (Nat.le_refl 9999) (9998 - tick) _ _ lean tick t1 k hJ1 l2' h52' (by omega) (Or.inl (by omega)) k3 hk
    have hen := r3.2.2.2.2.1
    have hen2 : en2 ≠ 0 := by
      rcases r5 with h | h
      · exact h
      · intro e
        have := r3.2.2.2.1 e
        omega
    obtain ⟨kk2, rfl⟩ : ∃ k', kk2 = k' + 1 := ⟨kk2 - 1, by omega⟩
    obtain ⟨kc, rfl⟩ : ∃ k', kc = k' + 1 := ⟨kc - 1, by omega⟩
    have hE2 : EN γ0 μ0 γ2 μ2 := EN.tr hE1 ⟨r8, r9⟩
    have h10' : γ2.1 5 10 = nI ng := (EN_HB hE2 HB0).2.2.2.1.1
    refine ⟨nI tick2, γ2, μ2, ?_, ?_, hE2⟩
    · have hne1 : ¬ γ.1 5 10 ≤ nI i := by rw [h10]; exact nI_ge (by omega) (by omega)
      have hne2 : ¬ (4 : Int32) ≤ nI i := nI_ge (b := 4) (by omega) (by omega)
      have ep : nI i = γ.1 5 10 - 1 := by
        rw [h10, show ng = i + 1 by omega, nI_pred]
      exact if_f hne1 (if_f hne2 (if_t ep (if_f one_ne (ck_g hib (sq_r (by rw [hci]; exact l1) (bd_g hL (bd_g (RT_run (by omega) (by omega) r1) (sq_r (nI_1 i) (if_t (by rw [h10']; exact nI_le (by omega) (by omega)) (by rw [JR_c5 r3])))))))))) 
    · rw [l4, leg_109 n _ μ (nI t1) (by omega) l2, r2]
      exact if_f (by rw [r4]; exact nI_ne0 (by omega) (by omega)) (sq_g (by rw [mp_1, if_neg (by omega), JR_m29 r3]))
  | succ m ih =>
    intro i k kc γ μ f lean tick hi hkc hk hE hJ htk
    obtain ⟨kc, rfl⟩ : ∃ k', kc = k' + 1 := ⟨kc - 1, by omega⟩
    have HB := EN_HB hE HB0
    have h10 : γ.1 5 10 = nI ng := HB.2.2.2.1.1
    have h52 : μ.1 0 52 = nI ng := HB.2.2.2.1.2
    obtain ⟨f1, t1, k1, k2, k3, ⟨l1, l2⟩, l3, l4⟩ := HB.2.2.2.2.2.2.2.2.2.1 i (by omega)
    have l1 : γ.1 10 i = nI f1 := l1
    have l2 : μ.1 22 i = nI f1 := l2
    have l3 : γ.1 11 i = nI t1 := l3
    have l4 : μ.1 23 i = nI t1 := l4
    obtain ⟨hh, tt, b1, b2, ⟨b3, b4⟩, b5, b6⟩ := HB.2.2.2.2.2.2.2.2.1 f1 k1
    have b3 : γ.1 8 f1 = nI hh := b3
    have b4 : μ.1 8 f1 = nI hh := b4
    have b5 : γ.1 9 f1 = nI tt := b5
    have b6 : μ.1 9 f1 = nI tt := b6
    have hib : ib (nI i) 4 = true := ib_nI (by omega) (by omega)
    have hci : Int32.toNatClampNeg (nI i) = i := nI_clamp (by omega)
    have hL := layOn_eq n γ k1 b3 b5
    have hCG : CG γ (cp (cp γ 32 6 (nI hh)) 32 7 (nI tt)) := CG.tr (CG_cp (by omega) _ _) (CG_cp (by omega) _ _)
    have hME : ME μ (mp μ 0 27 (nI f1)) := ME_mp0 (by omega) _
    have hE1 : EN γ0 μ0 (cp (cp γ 32 6 (nI hh)) 32 7 (nI tt)) (mp μ 0 27 (nI f1)) := EN.tr hE ⟨hCG, hME⟩
    have ht := hJ.2.2.2.1 rfl
    have hJ1 : JR (cp (cp γ 32 6 (nI hh)) 32 7 (nI tt)) (mp μ 0 27 (nI f1)) nl p f1 lean tick 1 0 := ⟨LL_eng hCG.1 hME hJ.1, MR_floor hJ.2.1 k1 b1 b4 b6, by rw [cp_ne _ _ _ _ (by decide), cp_ne _ _ _ _ (by decide)]; exact hJ.2.2.1, hJ.2.2.2⟩
    have l2' : (mp μ 0 27 (nI f1)).1 22 i = nI f1 := by rw [mp_ne _ _ _ _ (by decide)]; exact l2
    have h52' : (mp μ 0 27 (nI f1)).1 0 52 = nI ng := by rw [mp_1, if_neg (by omega)]; exact h52
    obtain ⟨γ2, μ2, lean2, tick2, en2, left2, kk2, m2, r0, r1, r2, r3, r4, r5, r6, r7, r8, r9⟩ := leg_run n hn (show i < ng by omega) hng (show tick + t1 ≤ 9999 by omega) (t1 - 1) _ _ lean tick t1 k hJ1 l2' h52' (by omega) (Or.inr rfl) k3 hk
    have hen := r3.2.2.2.2.1
    obtain ⟨kk2, rfl⟩ : ∃ k', kk2 = k' + 1 := ⟨kk2 - 1, by omega⟩
    have hE2 : EN γ0 μ0 γ2 μ2 := EN.tr hE1 ⟨r8, r9⟩
    have HB2 := EN_HB hE2 HB0
    have h10' : γ2.1 5 10 = nI ng := HB2.2.2.2.1.1
    have h52'' : μ2.1 0 52 = nI ng := HB2.2.2.2.1.2
    have hne1 : ¬ γ.1 5 10 ≤ nI i := by rw [h10]; exact nI_ge (by omega) (by omega)
    have hne2 : ¬ (4 : Int32) ≤ nI i := nI_ge (b := 4) (by omega) (by omega)
    have epn : nI ng - 1 = nI (ng - 1) := by
      rw [show ng = (ng - 1) + 1 by omega, nI_pred]
      congr 1
    have ep : ¬ nI i = γ.1 5 10 - 1 := by
      rw [h10, epn]
      exact fun h => absurd ((nI_eq (by omega) (by omega)).mp h) (by omega)
    have e11 : γ.1 11 (Int32.toNatClampNeg (nI i)) = nI t1 := by rw [hci]; exact l3
    have hC : lc_X7_ticksByLegs_15 n (kc + 1) γ (nI tick) (nI i) = lc_X7_ticksByLegs_15 n kc γ2 (nI (tick + t1)) (nI (i + 1)) := by
      refine if_f hne1 (if_f hne2 (if_f ep (if_t rfl (ck_g hib (sq_r e11 ?_)))))
      rw [nI_add]
      exact ck_g hib (sq_r (by rw [hci]; exact l1) (bd_g hL (bd_g (RT_run (by omega) (by omega) r1) (sq_r (nI_1 i) rfl))))
    have hM : bm_legs_109 n (lm_legs_74 n k) μ (nI i) (μ.1 23 i) = lm_legs_74 n (kk2 + 1) μ2 (nI i) (nI left2) := by
      rw [l4, leg_109 n _ μ (nI t1) (by omega) l2, r2]
    by_cases he : en2 = 0
    · subst he
      rcases r5 with h | ⟨h, h3⟩
      · exact absurd rfl h
      have hl0 : left2 = 0 := by omega
      subst hl0
      subst h
      have ht2 := r3.2.2.2.1 rfl
      obtain ⟨r, γ3, μ3, v1, v2, v3⟩ := ih (i + 1) kk2 kc γ2 μ2 f1 lean2 (tick + t1) (by omega) (by omega) (by omega) hE2 r3 (by omega)
      refine ⟨r, γ3, μ3, hC.trans v1, hM.trans ?_, v3⟩
      have hci1 : Int32.toNatClampNeg (nI (i + 1)) = i + 1 := nI_clamp (by omega)
      refine if_t r4 (if_t rfl (if_f (by rw [h52'', epn]; exact nI_ge (by omega) (by omega)) (sq_r (nI_1 i) (ck_g (ib_nI (by omega) (by omega)) (sq_r (by rw [hci1]) v2)))))
    · have hlg : ∀ j, j < ng → ∃ f t : Nat, f < 4 ∧ γ2.1 10 j = nI f ∧ γ2.1 11 j = nI t := fun j hj => by
        obtain ⟨f', t', w1, w2, w3, w4, w5⟩ := HB2.2.2.2.2.2.2.2.2.2.1 j hj
        exact ⟨f', t', w1, w4.1, w5.1⟩
      have hfl : ∀ f, f < 4 → ∃ h t : Nat, γ2.1 8 f = nI h ∧ γ2.1 9 f = nI t := fun f' hf' => by
        obtain ⟨h', t', w1, w2, w3, w4⟩ := HB2.2.2.2.2.2.2.2.2.1 f' hf'
        exact ⟨h', t', w3.1, w4.1⟩
      obtain ⟨γ3, v1, v2⟩ := legs_done n hn hng (show tick2 < 2 ^ 31 by omega) he hen (m + 1) (i + 1) kc γ2 (nI (tick + t1)) (by omega) (by omega) h10' (JR_c5 r3) r3.2.2.1 hlg hfl ⟨_, rfl⟩
      refine ⟨nI tick2, γ3, μ2, hC.trans v1, hM.trans ?_, EN.tr hE2 ⟨v2, ME.rf μ2⟩⟩
      exact if_f (by rw [r4]; exact nI_ne0 (by omega) (by omega)) (sq_g (by rw [mp_1, if_neg (by omega), JR_m29 r3]))
theorem s_legs (n : Nat) (hn : 10000 ≤ n) : st_legs n Rl := by
  intro γ μ x1 x2 H
  show OK _ _
  obtain ⟨np, nl, ng, HB⟩ := H.2.2.2.1
  have h10 : γ.1 5 10 = nI ng := HB.2.2.2.1.1
  have h52 : μ.1 0 52 = nI ng := HB.2.2.2.1.2
  have hng := HB.1.2.2
  have hnp := HB.1.1
  unfold fc_X7_legs fm_legs
  rcases plate_both n HB x1 with ⟨e1, e2⟩ | ⟨i, q, w, d, e, h, t, rfl, hi, e1, e2, hP⟩
  · exact OK_cm (bd_g e1 (oc_gn rfl rfl)) (bd_g e2 (if_t rfl rfl)) (OK_1 H)
  refine OK_cm (bd_g e1 (oc_gs rfl rfl)) (bd_g e2 (if_f one_ne rfl)) ?_
  rcases lean_both n γ μ x2 with ⟨r, hr, e1, e2⟩ | ⟨l, hl, rfl, e1, e2⟩
  · exact OK_cm (bd_g e1 (if_f (ne46 hr) rfl)) (bd_g e2 (if_f (ne46 hr) (if_f (ne46 hr) rfl))) (OK_46 H hr)
  refine OK_cm (bd_g e1 (if_t rfl rfl)) (bd_g e2 (if_t rfl rfl)) ?_
  by_cases c0 : ng = 0
  · subst c0
    exact OK_cm (if_t h10 rfl) (if_t h52 (sq_g (if_f (by decide) rfl))) (OK_3 H)
  have hne : ¬ nI ng = 0 := nI_ne0 (by omega) (by omega)
  obtain ⟨γb, g1, g2, g3⟩ := begin_both n HB hP (by omega) hl (show 0 < 4 by omega)
  have hJ := g3 (allI nl) (fun j hj => all_bits HB.1.2.1 hj)
  have hA := fm_all_eq n HB.1.2.1 (show μ.1 0 21 = nI nl from HB.2.2.1.2)
  have hE : EN γ μ γb (mp (mbg μ i l 0 (allI nl)) 0 35 0) := ⟨g2.1, ME.tr (mbg_ME μ i l 0 (allI nl)) (ME_mp0 (by omega) _)⟩
  obtain ⟨k, hk⟩ : ∃ k, n = k + 1 := ⟨n - 1, by omega⟩
  obtain ⟨r, γ1, μ1, v1, v2, v3⟩ := legs_loop n (by omega) hn HB (ng - 1) 0 k n γb (mp (mbg μ i l 0 (allI nl)) 0 35 0) 0 l 0 (by omega) (by omega) (by omega) hE (JR_35 hJ 0) (by omega)
  obtain ⟨f1, t1, k1, k2, k3, l1, l3, l4⟩ := (EN_HB hE HB).2.2.2.2.2.2.2.2.2.1 0 (by omega)
  have l4 : (mp (mbg μ i l 0 (allI nl)) 0 35 0).1 23 0 = nI t1 := l4
  have e35 : (mp (mbg μ i l 0 (allI nl)) 0 35 0).1 0 35 = 0 := by rw [mp_1, if_pos ⟨rfl, rfl⟩]
  have hH : lm_legs_74 n n (mp (mbg μ i l 0 (allI nl)) 0 35 0) 0 ((mp (mbg μ i l 0 (allI nl)) 0 35 0).1 23 (Int32.toNatClampNeg 0)) = some (r, mp μ1 0 52 0) := by
    have e0 : Int32.toNatClampNeg 0 = 0 := by decide
    rw [e0]
    have hs : ∀ kk, kk = k + 1 → lm_legs_74 n kk (mp (mbg μ i l 0 (allI nl)) 0 35 0) 0 ((mp (mbg μ i l 0 (allI nl)) 0 35 0).1 23 0) = bm_legs_109 n (lm_legs_74 n k) (mp (mbg μ i l 0 (allI nl)) 0 35 0) 0 ((mp (mbg μ i l 0 (allI nl)) 0 35 0).1 23 0) := by
      intro kk hkk
      subst hkk
      show bm_legs_74 n (lm_legs_74 n k) (mp (mbg μ i l 0 (allI nl)) 0 35 0) 0 ((mp (mbg μ i l 0 (allI nl)) 0 35 0).1 23 0) = _
      unfold bm_legs_74
      exact if_t e35 (if_f (by rw [l4]; exact nI_ne0 (by omega) (by omega)) rfl)
    exact (hs n hk).trans v2
  have hR := EN_Rl v3 H
  have HB1 := EN_HB v3 HB
  refine OK_cm (if_f (by rw [h10]; exact hne) (bd_g (show fc_X7_ticksByLegs n γ q (nI l) = some (r, γ1) from bd_g g1 (sq_g (sq_g v1))) (sq_g rfl))) (if_f (by rw [h52]; exact hne) (if_t rfl (bd_g hA (bd_g (begins_M n μ i l 0 (allI nl)) (sq_g (sq_g (sq_g hH))))))) (OK_ret rfl ?_)
  exact Rl_mut (ng1 := 0) hR HB1 rfl (fun a ha => cp_ne _ _ _ _ (by omega)) (by simp [cp_1]) (by simp [cp_1]) rfl (fun a ha => mp_ne _ _ _ _ (by omega)) (fun k hk => by rw [mp_1, if_neg (by omega)]) rfl (by omega) ⟨by rw [cp_1, if_pos (by omega)]; rfl, by rw [mp_1, if_pos (by omega)]; rfl⟩ (by rw [cp_1, if_neg (by omega), mp_1, if_neg (by omega)]; exact HB1.2.2.2.2.1) (FLs_same HB1 (cp_ne _ _ _ _ (by omega)) (cp_ne _ _ _ _ (by omega)) (mp_ne _ _ _ _ (by omega)) (mp_ne _ _ _ _ (by omega))) (fun j hj => absurd hj (by omega)) (SPr_same HB1 rfl (fun a _ => cp_ne _ _ _ _ (by omega)) (fun a _ _ => cp_ne _ _ _ _ (by omega)) rfl (fun a _ => mp_ne _ _ _ _ (by omega)) (fun k _ _ => by rw [mp_1, if_neg (by omega)]) rfl) (ROr_same HB1 (cp_ne _ _ _ _ (by omega)) (cp_ne _ _ _ _ (by omega)) (mp_ne _ _ _ _ (by omega)) (by rw [mp_1, if_neg (by omega)]) (by rw [mp_1, if_neg (by omega)]))
end
