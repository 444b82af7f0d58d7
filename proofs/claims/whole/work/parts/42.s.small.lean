/-! the small methods -/
theorem s_toneAt (n : Nat) : st_toneAt n Rl := by
  intro γ μ x1 x2 H
  show OK _ _
  obtain ⟨np, nl, ng, HB⟩ := H.2.2.2.1
  unfold fc_X7_toneAt fm_toneAt
  rcases plate_both n HB x1 with ⟨e1, e2⟩ | ⟨i, q, w, d, e, h, t, rfl, hi, e1, e2, hP⟩
  · exact OK_cm (bd_g e1 (oc_gn rfl rfl)) (bd_g e2 (if_t rfl rfl)) (OK_1 H)
  · have hnp := HB.1.1
    obtain ⟨p1, p2, p3, ⟨p40, p41, p42, p43, p44⟩, ⟨p50, p51, p52, p53, p54⟩, p6⟩ := hP
    refine OK_cm (bd_g e1 (oc_gs rfl rfl)) (bd_g e2 (if_f one_ne rfl)) ?_
    rcases lean_both n γ μ x2 with ⟨r, hr, g1, g2⟩ | ⟨l, hl, rfl, g1, g2⟩
    · exact OK_cm (bd_g g1 (if_f (ne46 hr) rfl)) (bd_g g2 (if_f (ne46 hr) rfl)) (OK_46 H hr)
    · exact OK_cm (bd_g g1 (if_t rfl (ck_g p2 (ck_g p2 (bd_g (by rw [p41, p44]; exact ctone n γ hl (by omega) (by omega)) rfl))))) (bd_g g2 (if_t rfl (bd_g (mtone n μ (by omega) hl (by omega) (by omega) p51 p54) rfl))) (OK_ret rfl H)
def FLs (γ : CS) (v : VW) : Prop := ∀ f, f < 4 → ∃ h t : Nat, h ≤ 9 ∧ t ≤ 9 ∧ (γ.1 (5 + 3) f = nI h ∧ v.1 8 f = nI h) ∧ (γ.1 (5 + 4) f = nI t ∧ v.1 9 f = nI t)
def LGs (γ : CS) (v : VW) (ng : Nat) : Prop := ∀ i, i < ng → ∃ f t : Nat, f < 4 ∧ 1 ≤ t ∧ t ≤ 999 ∧ (γ.1 (5 + 5) i = nI f ∧ v.1 22 i = nI f) ∧ (γ.1 (5 + 6) i = nI t ∧ v.1 23 i = nI t)
theorem Rl_mut {γ γ1 : CS} {μ μ1 : MS} {np nl ng ng1 : Nat} (H : Rl γ μ) (HB : RBn γ 5 (live μ) np nl ng) (h22 : γ1.2.2 = γ.2.2) (hI : ∀ a, (a ≤ 4 ∨ 18 ≤ a) → γ1.1 a = γ.1 a) (f8 : γ1.1 5 8 = γ.1 5 8) (f9 : γ1.1 5 9 = γ.1 5 9) (hJ : γ1.2.1 25 = γ.2.1 25) (hM : ∀ a, (1 ≤ a ∧ a ≤ 7 ∨ 10 ≤ a ∧ a ≤ 12 ∨ a = 14 ∨ a = 15 ∨ a = 24) → μ1.1 a = μ.1 a) (hS : ∀ k, (k = 9 ∨ k = 11 ∨ k = 21 ∨ k = 54) → μ1.1 0 k = μ.1 0 k) (h57 : μ1.2 57 = μ.2 57) (hng : ng1 ≤ 4) (hgs : γ1.1 5 10 = nI ng1 ∧ μ1.1 0 52 = nI ng1) (hair : γ1.1 5 11 = μ1.1 0 12 ∧ (γ1.1 5 11 = 0 ∨ γ1.1 5 11 = 1)) (hfl : FLs γ1 (live μ1)) (hlg : LGs γ1 (live μ1) ng1) (hsp : SPr γ1 5 (live μ1) np nl) (hro : ROr γ1 5 (live μ1)) : Rl γ1 μ1 := by
  have hPO : PO γ γ1 := fun q k hq => ⟨by unfold pk at *; rw [h22]; exact hq, by rw [h22], by rw [h22], fun _ => hI q (by have := (pk_s hq).1; omega)⟩
  refine Rl_live H h22 (fun a ha => hI a (by omega)) hPO hJ (hM _ (by omega)) (hM _ (by omega)) (hM _ (by omega)) (hS _ (by omega)) (hS _ (by omega)) h57 ⟨np, nl, ng1, RB_in HB hPO (fun _ _ => by rw [h22]) (fun _ _ => by rw [h22]) (fun a k h h2 => ?_) f8 f9 (hS _ (by omega)) (hS _ (by omega)) hng hgs hair hfl hlg hsp hro⟩
  show μ1.1 a k = μ.1 a k
  rw [hM a (by unfold okV at h; omega)]
theorem FLs_same {γ γ1 : CS} {μ μ1 : MS} {np nl ng : Nat} (HB : RBn γ 5 (live μ) np nl ng) (h1 : γ1.1 8 = γ.1 8) (h2 : γ1.1 9 = γ.1 9) (h3 : μ1.1 8 = μ.1 8) (h4 : μ1.1 9 = μ.1 9) : FLs γ1 (live μ1) := by
  unfold FLs live
  rw [show γ1.1 (5 + 3) = γ.1 8 from h1, show γ1.1 (5 + 4) = γ.1 9 from h2]
  show ∀ f, f < 4 → ∃ h t : Nat, h ≤ 9 ∧ t ≤ 9 ∧ (γ.1 8 f = nI h ∧ μ1.1 8 f = nI h) ∧ (γ.1 9 f = nI t ∧ μ1.1 9 f = nI t)
  rw [h3, h4]
  exact HB.2.2.2.2.2.2.2.2.1
theorem LGs_same {γ γ1 : CS} {μ μ1 : MS} {np nl ng : Nat} (HB : RBn γ 5 (live μ) np nl ng) (h1 : γ1.1 10 = γ.1 10) (h2 : γ1.1 11 = γ.1 11) (h3 : μ1.1 22 = μ.1 22) (h4 : μ1.1 23 = μ.1 23) : LGs γ1 (live μ1) ng := by
  unfold LGs live
  rw [show γ1.1 (5 + 5) = γ.1 10 from h1, show γ1.1 (5 + 6) = γ.1 11 from h2]
  show ∀ i, i < ng → ∃ f t : Nat, f < 4 ∧ 1 ≤ t ∧ t ≤ 999 ∧ (γ.1 10 i = nI f ∧ μ1.1 22 i = nI f) ∧ (γ.1 11 i = nI t ∧ μ1.1 23 i = nI t)
  rw [h3, h4]
  exact HB.2.2.2.2.2.2.2.2.2.1
theorem SPr_same {γ γ1 : CS} {μ μ1 : MS} {np nl ng : Nat} (HB : RBn γ 5 (live μ) np nl ng) (h22 : γ1.2.2 = γ.2.2) (hI : ∀ a, 34 ≤ a → γ1.1 a = γ.1 a) (h1 : ∀ a, 12 ≤ a → a ≤ 15 → γ1.1 a = γ.1 a) (hJ : γ1.2.1 12 = γ.2.1 12) (hM : ∀ a, (3 ≤ a ∧ a ≤ 7 ∨ a = 13 ∨ a = 19 ∨ a = 20) → μ1.1 a = μ.1 a) (hS : ∀ k, 38 ≤ k → k ≤ 45 → μ1.1 0 k = μ.1 0 k) (h46 : μ1.2 46 = μ.2 46) : SPr γ1 5 (live μ1) np nl :=
  SPr_mv (v := live μ) HB.1.1 HB.1.2.1 (fun q k hq => ⟨by unfold pk at *; rw [h22]; exact hq, by rw [h22], by rw [h22], fun _ => hI q (pk_s hq).1⟩) (fun _ _ => by rw [h22]) (fun c i _ _ _ => by rw [h1 _ (by omega) (by omega)]) hJ (fun a k h h2 => by show μ1.1 a k = μ.1 a k; rw [hM a (by unfold okV at h; omega)]) hS h46 HB.2.2.2.2.2.2.2.2.2.2.1
theorem ROr_same {γ γ1 : CS} {μ μ1 : MS} {np nl ng : Nat} (HB : RBn γ 5 (live μ) np nl ng) (h1 : γ1.1 16 = γ.1 16) (h2 : γ1.1 17 = γ.1 17) (hM : μ1.1 21 = μ.1 21) (h48 : μ1.1 0 48 = μ.1 0 48) (h49 : μ1.1 0 49 = μ.1 0 49) : ROr γ1 5 (live μ1) :=
  ROr_move (v := live μ) (v1 := live μ1) (b := 5) (fun c i h hc => by
    rcases (show c = 11 ∨ c = 12 by unfold okC at h; omega) with rfl | rfl
    · show γ1.1 16 i = γ.1 16 i; rw [h1]
    · show γ1.1 17 i = γ.1 17 i; rw [h2]) (fun k _ => by show μ1.1 21 k = μ.1 21 k; rw [hM]) (fun k hk => hk.elim (fun e => by subst e; exact h48) (fun e => by subst e; exact h49)) HB.2.2.2.2.2.2.2.2.2.2.2
theorem s_hush (n : Nat) : st_hush n Rl := by
  intro γ μ H
  show OK _ _
  obtain ⟨np, nl, ng, HB⟩ := H.2.2.2.1
  obtain ⟨len, sl, h1, h2, h3, h4, h5⟩ := HB.2.2.2.2.2.2.2.2.2.2.2
  unfold fc_X7_hush fm_hush
  refine OK_cm (sq_g (sq_g rfl)) (sq_g (sq_g rfl)) (OK_ret (h3.1.trans h3.2.symm) ?_)
  refine Rl_mut H HB rfl (fun a ha => cp_ne _ _ _ _ (by omega)) (by simp [cp_1]) (by simp [cp_1]) rfl (fun a ha => mp_ne _ _ _ _ (by omega)) (fun k hk => by rw [mp_1, if_neg (by omega)]) rfl HB.1.2.2 ⟨by rw [cp_1, if_neg (by omega)]; exact HB.2.2.2.1.1, by rw [mp_1, if_neg (by omega)]; exact HB.2.2.2.1.2⟩ (by rw [cp_1, if_neg (by omega), mp_1, if_neg (by omega)]; exact HB.2.2.2.2.1) (FLs_same HB (cp_ne _ _ _ _ (by omega)) (cp_ne _ _ _ _ (by omega)) (mp_ne _ _ _ _ (by omega)) (mp_ne _ _ _ _ (by omega))) (LGs_same HB (cp_ne _ _ _ _ (by omega)) (cp_ne _ _ _ _ (by omega)) (mp_ne _ _ _ _ (by omega)) (mp_ne _ _ _ _ (by omega))) (SPr_same HB rfl (fun a _ => cp_ne _ _ _ _ (by omega)) (fun a _ _ => cp_ne _ _ _ _ (by omega)) rfl (fun a _ => mp_ne _ _ _ _ (by omega)) (fun k _ _ => by rw [mp_1, if_neg (by omega)]) rfl) ?_
  exact ⟨0, sl, by omega, h2, ⟨by rw [cp_1, if_pos (by omega)]; rfl, by show (mp μ 0 48 0).1 0 48 = nI 0; rw [mp_1, if_pos (by omega)]; rfl⟩, ⟨by rw [cp_1, if_neg (by omega)]; exact h4.1, by show (mp μ 0 48 0).1 0 49 = nI sl; rw [mp_1, if_neg (by omega)]; exact h4.2⟩, fun i hi => absurd hi (by omega)⟩
theorem s_slip (n : Nat) : st_slip n Rl := by
  intro γ μ x1 H
  show OK _ _
  obtain ⟨np, nl, ng, HB⟩ := H.2.2.2.1
  obtain ⟨len, sl, h1, h2, h3, h4, h5⟩ := HB.2.2.2.2.2.2.2.2.2.2.2
  unfold fc_X7_slip fm_slip
  by_cases c0 : 0 ≤ x1
  · by_cases c1 : x1 ≤ 999
    · obtain ⟨j, hj, rfl⟩ := in0 (b := 999) (by omega) c0 c1
      refine OK_cm (if_t c0 (if_t c1 (sq_g (sq_g rfl)))) (bd_g (bnd_in n μ c0 c1) (if_t rfl (sq_g (sq_g rfl)))) (OK_ret (h4.1.trans h4.2.symm) ?_)
      refine Rl_mut H HB rfl (fun a ha => cp_ne _ _ _ _ (by omega)) (by simp [cp_1]) (by simp [cp_1]) rfl (fun a ha => mp_ne _ _ _ _ (by omega)) (fun k hk => by rw [mp_1, if_neg (by omega)]) rfl HB.1.2.2 ⟨by rw [cp_1, if_neg (by omega)]; exact HB.2.2.2.1.1, by rw [mp_1, if_neg (by omega)]; exact HB.2.2.2.1.2⟩ (by rw [cp_1, if_neg (by omega), mp_1, if_neg (by omega)]; exact HB.2.2.2.2.1) (FLs_same HB (cp_ne _ _ _ _ (by omega)) (cp_ne _ _ _ _ (by omega)) (mp_ne _ _ _ _ (by omega)) (mp_ne _ _ _ _ (by omega))) (LGs_same HB (cp_ne _ _ _ _ (by omega)) (cp_ne _ _ _ _ (by omega)) (mp_ne _ _ _ _ (by omega)) (mp_ne _ _ _ _ (by omega))) (SPr_same HB rfl (fun a _ => cp_ne _ _ _ _ (by omega)) (fun a _ _ => cp_ne _ _ _ _ (by omega)) rfl (fun a _ => mp_ne _ _ _ _ (by omega)) (fun k _ _ => by rw [mp_1, if_neg (by omega)]) rfl) ?_
      refine ⟨len, j, h1, hj, ⟨by rw [cp_1, if_neg (by omega)]; exact h3.1, by show (mp μ 0 49 (nI j)).1 0 48 = nI len; rw [mp_1, if_neg (by omega)]; exact h3.2⟩, ⟨by rw [cp_1, if_pos (by omega)], by show (mp μ 0 49 (nI j)).1 0 49 = nI j; rw [mp_1, if_pos (by omega)]⟩, fun i hi => ?_⟩
      rw [cp_ne _ _ _ _ (by omega)]
      show γ.1 (5 + 12) i = (mp μ 0 49 (nI j)).1 21 i ∧ _
      rw [mp_ne _ _ _ _ (by omega)]
      exact h5 i hi
    · exact OK_cm (if_t c0 (if_f c1 rfl)) (bd_g (bnd_hi n μ c0 c1) (if_f (by decide) rfl)) (OK_6 H)
  · exact OK_cm (if_f c0 rfl) (bd_g (bnd_lo n μ c0) (if_f (by decide) rfl)) (OK_4 H)
theorem s_heard (n : Nat) : st_heard n Rl := by
  intro γ μ x1 H
  show OK _ _
  obtain ⟨np, nl, ng, HB⟩ := H.2.2.2.1
  obtain ⟨len, sl, h1, h2, ⟨h3, h3'⟩, h4, h5⟩ := HB.2.2.2.2.2.2.2.2.2.2.2
  have h3 : γ.1 16 1 = nI len := h3
  have h3' : μ.1 0 48 = nI len := h3'
  unfold fc_X7_heard fm_heard
  by_cases c0 : -1 ≤ x1
  · by_cases c1 : x1 ≤ 99999
    · refine OK_cm (if_t c0 (if_f (ge_nlt c1) rfl)) (bd_g (bnd_in n μ c0 c1) (if_t rfl rfl)) ?_
      by_cases c2 : len < 24
      · have ec : Int32.toNatClampNeg (nI len) = len := nI_clamp (by omega)
        have ea : fc_X4_append n γ x1 = some (nI (len + 1), cp (cp γ 17 len x1) 16 1 (nI (len + 1))) := by
          unfold fc_X4_append
          have e2 : (cp (cp γ 17 len x1) 16 1 (nI (len + 1))).1 16 1 = nI (len + 1) := by rw [cp_1, if_pos (by omega)]
          refine if_f (by rw [h3]; exact nI_pos (by omega)) (if_f (by rw [h3]; exact nI_ge (b := 24) (by omega) (by omega)) (ck_g (by rw [h3]; exact ib_nI (by omega) (by omega)) (sq_r (x1 := cp γ 17 len x1) (by rw [h3, ec]) (sq_r (x1 := cp (cp γ 17 len x1) 16 1 (nI (len + 1))) (by rw [cp_ne _ _ _ _ (by omega), h3, nI_1]) (by rw [e2])))))
        have eb : bm_heard_25 n μ x1 0 = some (nI (len + 1), mp (mp μ 21 len x1) 0 48 (nI (len + 1))) := by
          unfold bm_heard_25
          have e2 : (mp (mp μ 21 len x1) 0 48 (nI (len + 1))).1 0 48 = nI (len + 1) := by rw [mp_1, if_pos (by omega)]
          refine if_t rfl (ck_g (by rw [h3']; exact ib_nI (by omega) (by omega)) (sq_r (x1 := mp μ 21 len x1) (by rw [h3', ec]) (sq_r (x1 := mp (mp μ 21 len x1) 0 48 (nI (len + 1))) (by rw [mp_ne _ _ _ _ (by omega), h3', nI_1]) (by rw [e2]))))
        refine OK_cm (if_t (by rw [h3]; exact nI_lt (b := 24) (by omega) (by omega)) (bd_g ea rfl)) (if_f (by rw [h3']; exact fun h => absurd ((nI_eq (b := 24) (by omega) (by omega)).mp h) (by omega)) eb) (OK_ret rfl ?_)
        refine Rl_mut H HB rfl (fun a ha => by rw [cp_ne _ _ _ _ (by omega), cp_ne _ _ _ _ (by omega)]) (by simp [cp_1]) (by simp [cp_1]) rfl (fun a ha => by rw [mp_ne _ _ _ _ (by omega), mp_ne _ _ _ _ (by omega)]) (fun k hk => by rw [mp_1, if_neg (by omega), mp_ne _ _ _ _ (by omega)]) rfl HB.1.2.2 ⟨by rw [cp_1, if_neg (by omega), cp_1, if_neg (by omega)]; exact HB.2.2.2.1.1, by rw [mp_1, if_neg (by omega), mp_1, if_neg (by omega)]; exact HB.2.2.2.1.2⟩ (by rw [cp_1, if_neg (by omega), cp_1, if_neg (by omega), mp_1, if_neg (by omega), mp_1, if_neg (by omega)]; exact HB.2.2.2.2.1) (FLs_same HB (by rw [cp_ne _ _ _ _ (by omega), cp_ne _ _ _ _ (by omega)]) (by rw [cp_ne _ _ _ _ (by omega), cp_ne _ _ _ _ (by omega)]) (by rw [mp_ne _ _ _ _ (by omega), mp_ne _ _ _ _ (by omega)]) (by rw [mp_ne _ _ _ _ (by omega), mp_ne _ _ _ _ (by omega)])) (LGs_same HB (by rw [cp_ne _ _ _ _ (by omega), cp_ne _ _ _ _ (by omega)]) (by rw [cp_ne _ _ _ _ (by omega), cp_ne _ _ _ _ (by omega)]) (by rw [mp_ne _ _ _ _ (by omega), mp_ne _ _ _ _ (by omega)]) (by rw [mp_ne _ _ _ _ (by omega), mp_ne _ _ _ _ (by omega)])) (SPr_same HB rfl (fun a _ => by rw [cp_ne _ _ _ _ (by omega), cp_ne _ _ _ _ (by omega)]) (fun a _ _ => by rw [cp_ne _ _ _ _ (by omega), cp_ne _ _ _ _ (by omega)]) rfl (fun a _ => by rw [mp_ne _ _ _ _ (by omega), mp_ne _ _ _ _ (by omega)]) (fun k _ _ => by rw [mp_1, if_neg (by omega), mp_ne _ _ _ _ (by omega)]) rfl) ?_
        refine ⟨len + 1, sl, by omega, h2, ⟨by rw [cp_1, if_pos (by omega)], by show (mp (mp μ 21 len x1) 0 48 (nI (len + 1))).1 0 48 = _; rw [mp_1, if_pos (by omega)]⟩, ⟨by rw [cp_1, if_neg (by omega), cp_1, if_neg (by omega)]; exact h4.1, by show (mp (mp μ 21 len x1) 0 48 (nI (len + 1))).1 0 49 = _; rw [mp_1, if_neg (by omega), mp_1, if_neg (by omega)]; exact h4.2⟩, fun i hi => ?_⟩
        rw [cp_ne _ _ _ _ (by omega), cp_1]
        show (if 17 = 17 ∧ i = len then x1 else γ.1 17 i) = (mp (mp μ 21 len x1) 0 48 (nI (len + 1))).1 21 i ∧ _
        rw [mp_ne _ _ _ _ (by omega), mp_1]
        by_cases e : i = len
        · rw [if_pos ⟨rfl, e⟩, if_pos ⟨rfl, e⟩]
          refine ⟨rfl, ?_⟩
          by_cases c3 : 0 ≤ x1
          · obtain ⟨j, hj, rfl⟩ := in0 (b := 99999) (by omega) c3 c1
            exact Or.inr ⟨j, hj, rfl⟩
          · refine Or.inl (Int32.toInt_inj.mp ?_)
            have e0 : (0 : Int32).toInt = 0 := by decide
            have e1 : (-1 : Int32).toInt = -1 := by decide
            rw [Int32.le_iff_toInt_le] at c0 c3
            omega
        · rw [if_neg (fun h => e h.2), if_neg (fun h => e h.2)]
          exact h5 i (by omega)
      · have : len = 24 := by omega
        subst this
        exact OK_cm (if_f (by rw [h3]; decide) rfl) (if_t (by rw [h3']; decide) (sq_g (if_f (by decide) rfl))) (OK_6 H)
    · exact OK_cm (if_t c0 (if_t (nle_gt c1) rfl)) (bd_g (bnd_hi n μ c0 c1) (if_f (by decide) (if_f (by decide) rfl))) (OK_6 H)
  · exact OK_cm (if_f c0 rfl) (bd_g (bnd_lo n μ c0) (if_f (by decide) (if_f (by decide) rfl))) (OK_4 H)
