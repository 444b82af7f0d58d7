/-! count, feed -/
theorem tot (n : Nat) (γ : CS) {len i : Nat} (hl : len ≤ 24) (hi : i < len) (h3 : γ.1 16 1 = nI len) : fc_X4_toneOfTenth n γ (nI i) = some (γ.1 17 i, γ) :=
  if_f (nI_pos (by omega)) (if_f (by rw [h3]; exact nI_ge hi (by omega)) (if_f (nI_ge (b := 24) (by omega) (by omega)) (ck_g (ib_nI (by omega) (by omega)) (sq_g (by rw [nI_clamp (by omega)])))))
theorem heardC (n : Nat) (γ : CS) {len i : Nat} (hl : len ≤ 24) (hi : i < len) (h3 : γ.1 16 1 = nI len) : fc_X4_isHeard n γ (nI i) = some (if γ.1 17 i = -1 then 0 else 1, γ) := by
  unfold fc_X4_isHeard
  refine bd_g (tot n γ hl hi h3) ?_
  by_cases h : γ.1 17 i = -1
  · rw [if_pos h, if_pos h]
  · rw [if_neg h, if_neg h]
/-- heard or not: in both the same -/
theorem hd_both {γ : CS} {μ : MS} {i : Nat} (h : γ.1 17 i = μ.1 21 i ∧ (γ.1 17 i = -1 ∨ ∃ t : Nat, t ≤ 99999 ∧ γ.1 17 i = nI t)) : (γ.1 17 i = -1 ∧ μ.1 21 i < 0) ∨ ∃ t : Nat, t ≤ 99999 ∧ γ.1 17 i = nI t ∧ μ.1 21 i = nI t ∧ ¬ γ.1 17 i = -1 ∧ ¬ μ.1 21 i < 0 := by
  obtain ⟨h1, h2⟩ := h
  rcases h2 with e | ⟨t, ht, e⟩
  · exact Or.inl ⟨e, by rw [← h1, e]; decide⟩
  · refine Or.inr ⟨t, ht, e, h1 ▸ e, ?_, by rw [← h1, e]; exact nI_pos (by omega)⟩
    rw [e]
    intro h
    have := congrArg Int32.toInt h
    rw [nI_toInt (by omega)] at this
    have e1 : (-1 : Int32).toInt = -1 := by decide
    omega
theorem many_loop (n : Nat) {γ : CS} {μ : MS} {len : Nat} (hl : len ≤ 24) (h3 : γ.1 16 1 = nI len) (h4 : μ.1 0 48 = nI len) (h5 : ∀ i, i < len → γ.1 17 i = μ.1 21 i ∧ (γ.1 17 i = -1 ∨ ∃ t : Nat, t ≤ 99999 ∧ γ.1 17 i = nI t)) : ∀ (m i k : Nat) (c : Int32), i + m = len → m < k → ∃ r, lc_X4_heardOnes_4 n k γ c (nI i) = some (r, γ) ∧ lm_heardMany_4 n k μ c (nI i) = some (r, μ) := by
  intro m
  induction m with
  | zero =>
    intro i k c hi hk
    obtain ⟨k, rfl⟩ : ∃ k', k = k' + 1 := ⟨k - 1, by omega⟩
    exact ⟨c, if_t (by rw [h3]; exact nI_le (by omega) (by omega)) rfl, if_t (by rw [h4]; exact nI_le (by omega) (by omega)) rfl⟩
  | succ m ih =>
    intro i k c hi hk
    obtain ⟨k, rfl⟩ : ∃ k', k = k' + 1 := ⟨k - 1, by omega⟩
    have ec : Int32.toNatClampNeg (nI i) = i := nI_clamp (by omega)
    rcases hd_both (h5 i (by omega)) with ⟨a1, a2⟩ | ⟨t, ht, a1, a2, a3, a4⟩
    · obtain ⟨r, r1, r2⟩ := ih (i + 1) k c (by omega) (by omega)
      exact ⟨r, if_f (by rw [h3]; exact nI_ge (by omega) (by omega)) (bd_g (heardC n γ hl (by omega) h3) (if_t (if_pos a1) (sq_r (nI_1 i) r1))), if_f (by rw [h4]; exact nI_ge (by omega) (by omega)) (ck_g (ib_nI (by omega) (by omega)) (sq_r (x1 := μ.1 21 i) (by rw [ec]) (if_t a2 (sq_r (x1 := c) (Int32.add_zero c) (sq_r (nI_1 i) r2)))))⟩
    · obtain ⟨r, r1, r2⟩ := ih (i + 1) k (c + 1) (by omega) (by omega)
      exact ⟨r, if_f (by rw [h3]; exact nI_ge (by omega) (by omega)) (bd_g (heardC n γ hl (by omega) h3) (if_f (by rw [if_neg a3]; decide) (sq_g (sq_r (nI_1 i) r1)))), if_f (by rw [h4]; exact nI_ge (by omega) (by omega)) (ck_g (ib_nI (by omega) (by omega)) (sq_r (x1 := μ.1 21 i) (by rw [ec]) (if_f a4 (sq_g (sq_r (nI_1 i) r2)))))⟩
theorem many_both (n : Nat) {γ : CS} {μ : MS} (hn : 25 ≤ n) (h : ROr γ 5 (live μ)) : ∃ r, fc_X4_heardOnes n γ = some (r, γ) ∧ fm_heardMany n μ = some (r, μ) := by
  obtain ⟨len, sl, h1, h2, h3, h4, h5⟩ := h
  exact many_loop n h1 h3.1 h3.2 h5 len 0 n 0 (by omega) (by omega)
theorem s_count (n : Nat) (hn : 25 ≤ n) : st_count n Rl := by
  intro γ μ x1 H
  show OK _ _
  obtain ⟨np, nl, ng, HB⟩ := H.2.2.2.1
  unfold fc_X7_count fm_count
  by_cases cIn : 11 ≤ x1 ∧ x1 ≤ 16
  · obtain ⟨j, hj0, hj, rfl⟩ := in1 (a := 11) (b := 16) (by omega) (by omega) cIn.1 cIn.2
    have hne : ∀ m, m < 11 → ¬ nI j = nI m := fun m hm h => absurd ((nI_eq (by omega) (by omega)).mp h) (by omega)
    have es : nI j - 10 = nI (j - 10) := nI_sub (b := 10) (by omega) (by omega)
    have ec : Int32.toNatClampNeg (nI (j - 10)) = j - 10 := nI_clamp (by omega)
    refine OK_cm (if_f (hne 0 (by omega)) (if_f (hne 1 (by omega)) (if_f (hne 2 (by omega)) (if_f (hne 3 (by omega)) (if_f (hne 4 (by omega)) (if_f (hne 5 (by omega)) (if_f (hne 6 (by omega)) rfl))))))) (bd_g (if_f (ge_nlt cIn.1) (if_f (ge_nlt cIn.2) rfl)) (if_f one_ne rfl)) ?_
    rw [es]
    unfold fc_X7_refusedSoFar
    exact OK_cm (bd_g (if_f (nI_nlt (b := 1) (by omega) (by omega)) (if_f (nI_ge (b := 7) (by omega) (by omega)) (ck_g (ib_nI (by omega) (by omega)) (sq_g rfl)))) rfl) (ck_g (ib_nI (by omega) (by omega)) (sq_g rfl)) (OK_ret (by rw [ec]; exact H.2.2.2.2.2.1 _ (by omega) (by omega)) H)
  · have hin : fm_isIn n μ x1 11 16 = some (0, μ) := by
      unfold fm_isIn
      by_cases c : x1 < 11
      · exact if_t c rfl
      · exact if_f c (if_t (nle_gt (fun h => cIn ⟨nlt_ge c, h⟩)) rfl)
    refine OK_cm rfl (bd_g hin (if_t rfl rfl)) ?_
    by_cases c0 : x1 = 0
    · exact OK_cm (if_t c0 rfl) (if_t c0 rfl) (OK_ret (HB.2.1.1.trans HB.2.1.2.symm) H)
    refine OK_cm (if_f c0 rfl) (if_f c0 rfl) ?_
    by_cases c0 : x1 = 1
    · exact OK_cm (if_t c0 rfl) (if_t c0 rfl) (OK_ret (HB.2.2.1.1.trans HB.2.2.1.2.symm) H)
    refine OK_cm (if_f c0 rfl) (if_f c0 rfl) ?_
    by_cases c0 : x1 = 2
    · obtain ⟨len, sl, h1, h2, h3, h4, h5⟩ := HB.2.2.2.2.2.2.2.2.2.2.2
      exact OK_cm (if_t c0 rfl) (if_t c0 rfl) (OK_ret (h3.1.trans h3.2.symm) H)
    refine OK_cm (if_f c0 rfl) (if_f c0 rfl) ?_
    by_cases c0 : x1 = 3
    · obtain ⟨r, r1, r2⟩ := many_both n hn HB.2.2.2.2.2.2.2.2.2.2.2
      exact OK_cm (if_t c0 (bd_g r1 rfl)) (if_t c0 (bd_g r2 rfl)) (OK_ret rfl H)
    refine OK_cm (if_f c0 rfl) (if_f c0 rfl) ?_
    by_cases c0 : x1 = 4
    · exact OK_cm (if_t c0 rfl) (if_t c0 rfl) (OK_ret (HB.2.2.2.1.1.trans HB.2.2.2.1.2.symm) H)
    refine OK_cm (if_f c0 rfl) (if_f c0 rfl) ?_
    by_cases c0 : x1 = 5
    · obtain ⟨len, h1, h2, h3⟩ := H.2.2.2.2.1
      exact OK_cm (if_t c0 rfl) (if_t c0 rfl) (OK_ret (h2.1.trans h2.2.symm) H)
    refine OK_cm (if_f c0 rfl) (if_f c0 rfl) ?_
    by_cases c0 : x1 = 6
    · obtain ⟨ha1, ha2⟩ := HB.2.2.2.2.1
      have ha1 : γ.1 5 11 = μ.1 0 12 := ha1
      rcases ha2 with e | e
      · exact OK_cm (if_t c0 (if_t e rfl)) (if_t c0 rfl) (OK_ret (by rw [← ha1]; exact e.symm) H)
      · exact OK_cm (if_t c0 (if_f (by rw [show γ.1 5 11 = 1 from e]; decide) rfl)) (if_t c0 rfl) (OK_ret (by rw [← ha1]; exact e.symm) H)
    refine OK_cm (if_f c0 rfl) (if_f c0 rfl) (OK_cm (bd_g (a := -9) (b := γ) ?_ rfl) rfl (OK_ret rfl H))
    unfold fc_X7_refusedSoFar
    by_cases c1 : x1 - 10 < 1
    · exact if_t c1 rfl
    · refine if_f c1 ?_
      by_cases c2 : Int32.ofNat 7 ≤ x1 - 10
      · exact if_t c2 rfl
      · exfalso
        apply cIn
        have d1 := nlt_ge c1
        have d2 := nle_gt c2
        have e0 : (1 : Int32).toInt = 1 := by decide
        have e7 : (Int32.ofNat 7).toInt = 7 := by decide
        have e10 : (10 : Int32).toInt = 10 := by decide
        have e11 : (11 : Int32).toInt = 11 := by decide
        have e16 : (16 : Int32).toInt = 16 := by decide
        have ex : x1 = (x1 - 10) + 10 := (Int32.sub_add_cancel x1 10).symm
        rw [Int32.le_iff_toInt_le] at d1
        rw [Int32.lt_iff_toInt_lt] at d2
        have es : ((x1 - 10) + 10).toInt = (x1 - 10).toInt + 10 := by rw [i_add (by omega) (by omega)]; omega
        rw [← ex] at es
        constructor
        · rw [Int32.le_iff_toInt_le]; omega
        · rw [Int32.le_iff_toInt_le]; omega
