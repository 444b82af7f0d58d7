/-! ahead, parts -/
theorem set_both (n : Nat) {γ : CS} {μ : MS} {np nl ng : Nat} (HB : RBn γ 5 (live μ) np nl ng) (x : Int32) : (fc_X7_isSet n γ x = some (0, γ) ∧ fm_isSet n μ x = some (0, μ)) ∨ (∃ s : Nat, s < 2 ^ nl ∧ x = nI s) ∧ fc_X7_isSet n γ x = some (1, γ) ∧ fm_isSet n μ x = some (1, μ) := by
  have hnl := HB.1.2.1
  have e1 : ((1 : Int32) <<< (γ.1 5 9 &&& 31)) = nI (2 ^ nl) := by rw [show γ.1 5 9 = nI nl from HB.2.2.1.1]; exact shl_nl hnl
  have hA := fm_all_eq n hnl (show μ.1 0 21 = nI nl from HB.2.2.1.2)
  have h256 : 2 ^ nl ≤ 256 := Nat.pow_le_pow_right (by omega) hnl
  have h1 : 1 ≤ 2 ^ nl := Nat.one_le_two_pow
  unfold fc_X7_isSet fm_isSet
  by_cases c0 : x < 0
  · exact Or.inl ⟨if_t c0 rfl, if_t c0 rfl⟩
  · obtain ⟨s, hs, rfl⟩ := nI_of c0
    by_cases c1 : s < 2 ^ nl
    · exact Or.inr ⟨⟨s, c1, rfl⟩, if_f c0 (if_f (by rw [e1]; exact nI_ge c1 (by omega)) rfl), if_f c0 (bd_g hA (if_f (nI_nlt (by omega) (by omega)) rfl))⟩
    · exact Or.inl ⟨if_f c0 (if_t (by rw [e1]; exact nI_le (by omega) hs) rfl), if_f c0 (bd_g hA (if_t (nI_lt (by omega) hs) rfl))⟩
theorem ahead_run (n : Nat) (hn : 10000 ≤ n) {γ γ1 : CS} {μ : MS} {nl p f l : Nat} {v : Int32} (hz : zb v = true) (hJ : JR (cp γ1 31 9 v) μ nl p f l 0 1 0) (hC : CG γ γ1) : ∃ γ2 μ2 T, bc_X7_ticksAhead_120 n γ1 v = some (nI T, γ2) ∧ fm_lastsOn n μ 1 = some (nI T, μ2) ∧ T ≤ 10008 ∧ CG γ γ2 ∧ ME μ μ2 := by
  obtain ⟨γ2, μ2, T, en, r1, r2, r3, r4, r5, r6, r7, r8, r9⟩ := last_both n hn (Nat.le_refl 1) (by omega) hJ
  refine ⟨γ2, μ2, T, ?_, r2, r4, CG.tr hC (CG.tr (CG_cp (by omega) _ _) r8), r9⟩
  unfold bc_X7_ticksAhead_120
  exact ck_g hz (sq_g (bd_g r1 (by rw [r3])))
theorem ahead_core (n : Nat) (hn : 10000 ≤ n) {γ : CS} {μ : MS} {np nl ng p l f : Nat} (HB : RBn γ 5 (live μ) np nl ng) (hp : p < np) (hl : l ≤ 9000) (hf : f < 4) (a x : Int32) : ∃ γ1 μ1 T, bc_X7_ticksAhead_61 n γ a x (nI p) (nI f) (nI l) = some (nI T, γ1) ∧ bm_aheadOf_45 n μ a x (nI f) (nI l) (nI p) = some (nI T, μ1) ∧ T ≤ 10008 ∧ EN γ μ γ1 μ1 := by
  have hnp := HB.1.1
  obtain ⟨q, w, d, e, h, t, hq, hP⟩ := plate_at n HB hp
  obtain ⟨γa, g1, g2⟩ := begin_C n HB hP hl hf
  have hair : γ.1 5 11 = μ.1 0 12 := HB.2.2.2.2.1.1
  have hair2 : γ.1 5 11 = 0 ∨ γ.1 5 11 = 1 := HB.2.2.2.2.1.2
  have hMR := MR_cp7 (MR_begin x hP (show p < 6 by omega) hf hl hair g2) x
  have hMR2 : MR (cp γa 31 7 x) (mbg μ p l f x) nl p f l 0 1 := MR_bits hMR (fun i hi => by rw [cp_1, if_pos ⟨rfl, rfl⟩, show (mbg μ p l f x).1 0 28 = x by simp [mbg, mp_1]])
  have hCa : CG γ (cp γa 31 7 x) := CG.tr g2.1 (CG_cp (by omega) _ _)
  have hLL := LL_eng hCa.1 (mbg_ME μ p l f x) (LL_of HB)
  have h30 : (mbg μ p l f x).1 0 30 = γ.1 5 11 := by rw [hair]; simp [mbg, mp_1]
  have h12 : (mbg μ p l f x).1 0 12 = γ.1 5 11 := by rw [hair]; simp [mbg, mp_1]
  have h511 : (cp γa 31 7 x).1 5 11 = γ.1 5 11 := by rw [hCa.1.2.2.2 5 (by decide) (by decide) (by decide) (by omega)]
  have h6 : ∀ v, (cp (cp γa 31 7 x) 31 9 v).1 31 6 = nI 0 := fun v => by rw [cp_1, if_neg (by omega), cp_1, if_neg (by omega), g2.2.2.1]; rfl
  unfold bc_X7_ticksAhead_61 bm_aheadOf_45
  by_cases c1 : a = 1
  · have hJ : JR (cp (cp γa 31 7 x) 31 9 (1 - γ.1 5 11)) (mp (mbg μ p l f x) 0 30 (1 - γ.1 5 11)) nl p f l 0 1 0 := ⟨LL_eng (CE_cp (by omega) _ _) (ME_mp0 (by omega) _) hLL, MR_air hMR2 _, h6 _, by omega, by omega, by omega⟩
    have hz : zb (1 - γ.1 5 11) = true := by rcases hair2 with e | e <;> rw [e] <;> rfl
    obtain ⟨γ2, μ2, T, r1, r2, r3, r4, r5⟩ := ahead_run n hn hz hJ hCa
    refine ⟨γ2, μ2, T, bd_g hq (bd_g g1 (sq_g (if_t c1 ?_))), bd_g (begins_M n μ p l f x) (if_t c1 (sq_r (x1 := mp (mbg μ p l f x) 0 30 (1 - γ.1 5 11)) (by rw [h12]) (bd_g r2 rfl))), r3, r4, ME.tr (mbg_ME _ _ _ _ _) (ME.tr (ME_mp0 (by omega) _) r5)⟩
    unfold bc_X7_ticksAhead_112
    rw [h511]
    rcases hair2 with e | e
    · rw [e] at r1 ⊢
      exact if_f (by decide) r1
    · rw [e] at r1 ⊢
      exact if_t rfl r1
  · have hJ : JR (cp (cp γa 31 7 x) 31 9 (γ.1 5 11)) (mbg μ p l f x) nl p f l 0 1 0 := by
      have hm := MR_air hMR2 ((mbg μ p l f x).1 0 30)
      rw [mp_same, h30] at hm
      exact ⟨LL_eng (CE_cp (by omega) _ _) (ME.rf _) hLL, hm, h6 _, by omega, by omega, by omega⟩
    have hz : zb (γ.1 5 11) = true := by rcases hair2 with e | e <;> rw [e] <;> rfl
    obtain ⟨γ2, μ2, T, r1, r2, r3, r4, r5⟩ := ahead_run n hn hz hJ hCa
    refine ⟨γ2, μ2, T, bd_g hq (bd_g g1 (sq_g (if_f c1 ?_))), bd_g (begins_M n μ p l f x) (if_f c1 (bd_g r2 rfl)), r3, r4, ME.tr (mbg_ME _ _ _ _ _) r5⟩
    unfold bc_X7_ticksAhead_112
    rw [h511]
    rcases hair2 with e | e
    · rw [e] at r1 ⊢
      exact if_t rfl r1
    · rw [e] at r1 ⊢
      exact if_f (by decide) r1
theorem ahead_both (n : Nat) (hn : 10000 ≤ n) {γ0 γ : CS} {μ0 μ : MS} {np nl ng : Nat} (HB0 : RBn γ0 5 (live μ0) np nl ng) {pn fl f0 ln tk en tc q w d e h t : Nat} (hpn : pn < np) (hS0 : SP γ0 μ0 pn fl f0 ln tk en tc q w d e h t) (hE : EN γ0 μ0 γ μ) (a x told : Int32) (h2 : a = 2 → ∃ i, i < np ∧ told = nI i) (h3 : a = 3 → ∃ f, f < 4 ∧ told = nI f) : ∃ γ1 μ1 T, fc_X7_ticksAhead n γ a x told = some (nI T, γ1) ∧ fm_aheadOf n μ a x told = some (nI T, μ1) ∧ T ≤ 10008 ∧ EN γ0 μ0 γ1 μ1 := by
  have HB := EN_HB hE HB0
  obtain ⟨r0, r1, r2, r3, r4, r⟩ := EN_SP hE hS0
  have core : ∀ {p l f : Nat}, p < np → l ≤ 9000 → f < 4 → ∃ γ1 μ1 T, bc_X7_ticksAhead_61 n γ a x (nI p) (nI f) (nI l) = some (nI T, γ1) ∧ bm_aheadOf_45 n μ a x (nI f) (nI l) (nI p) = some (nI T, μ1) ∧ T ≤ 10008 ∧ EN γ0 μ0 γ1 μ1 := fun hp hl hf => by
    obtain ⟨γ1, μ1, T, u1, u2, u3, u4⟩ := ahead_core n hn HB hp hl hf a x
    exact ⟨γ1, μ1, T, u1, u2, u3, EN.tr hE u4⟩
  unfold fc_X7_ticksAhead fm_aheadOf bc_X7_ticksAhead_23 bm_aheadOf_14 bc_X7_ticksAhead_39 bm_aheadOf_32
  by_cases c2 : a = 2
  · obtain ⟨i, hi, rfl⟩ := h2 c2
    have n3 : ¬ a = 3 := by rw [c2]; decide
    have n4 : ¬ a = 4 := by rw [c2]; decide
    obtain ⟨γ1, μ1, T, u1, u2, u3, u4⟩ := core hi r0.2.1 r0.2.2.1
    exact ⟨γ1, μ1, T, if_t c2 (if_f n3 (if_f n4 (by rw [r3.1, r4.1]; exact u1))), if_t c2 (if_f n4 (if_f n3 (by rw [r3.2, r4.2]; exact u2))), u3, u4⟩
  · by_cases c3 : a = 3
    · obtain ⟨f, hf, rfl⟩ := h3 c3
      have n4 : ¬ a = 4 := by rw [c3]; decide
      obtain ⟨γ1, μ1, T, u1, u2, u3, u4⟩ := core hpn r0.2.1 hf
      exact ⟨γ1, μ1, T, if_f c2 (if_t c3 (if_f n4 (by rw [r2.1, r3.1]; exact u1))), if_f c2 (if_f n4 (if_t c3 (by rw [r2.2, r3.2]; exact u2))), u3, u4⟩
    · by_cases c4 : a = 4
      · have eh : nI fl / 2 = nI (fl / 2) := nI_div (b := 2) (by omega) (by omega)
        obtain ⟨γ1, μ1, T, u1, u2, u3, u4⟩ := core hpn (show fl / 2 ≤ 9000 by omega) r0.2.2.1
        exact ⟨γ1, μ1, T, if_f c2 (if_f c3 (if_t c4 (by rw [r2.1, r3.1, r4.1, eh]; exact u1))), if_f c2 (if_t c4 (if_f c3 (by rw [r2.2, r3.2, r4.2, eh]; exact u2))), u3, u4⟩
      · obtain ⟨γ1, μ1, T, u1, u2, u3, u4⟩ := core hpn r0.2.1 r0.2.2.1
        exact ⟨γ1, μ1, T, if_f c2 (if_f c3 (if_f c4 (by rw [r2.1, r3.1, r4.1]; exact u1))), if_f c2 (if_f c4 (if_f c3 (by rw [r2.2, r3.2, r4.2]; exact u2))), u3, u4⟩
theorem s_ahead (n : Nat) (hn : 10000 ≤ n) : st_ahead n Rl := by
  intro γ μ x1 x2 x3 H
  show OK _ _
  obtain ⟨np, nl, ng, HB⟩ := H.2.2.2.1
  have hnp := HB.1.1
  unfold fc_X7_ahead fm_ahead
  rcases set_both n HB x2 with ⟨e1, e2⟩ | ⟨⟨s, hs, rfl⟩, e1, e2⟩
  · exact OK_cm (bd_g e1 (if_t rfl rfl)) (bd_g e2 (if_t rfl rfl)) (OK_1 H)
  refine OK_cm (bd_g e1 (if_f one_ne rfl)) (bd_g e2 (if_f one_ne rfl)) ?_
  have last : (x1 = 2 → ∃ i, i < np ∧ x3 = nI i) → (x1 = 3 → ∃ f, f < 4 ∧ x3 = nI f) → OK (bc_X7_ahead_42 n γ x1 (nI s) x3) (bm_ahead_39 n μ x1 (nI s) x3) := fun h2 h3 => by
    unfold bc_X7_ahead_42 bm_ahead_39
    by_cases c0 : x1 < 0
    · exact OK_cm (if_t c0 rfl) (bd_g (if_t c0 rfl) (if_t rfl rfl)) (OK_2 H)
    by_cases c1 : ¬ x1 ≤ 4
    · exact OK_cm (if_f c0 (if_f c1 rfl)) (bd_g (if_f c0 (if_t (nle_gt c1) rfl)) (if_t rfl rfl)) (OK_2 H)
    have c1 := Decidable.not_not.mp c1
    refine OK_cm (if_f c0 (if_t c1 rfl)) (bd_g (if_f c0 (if_f (ge_nlt c1) rfl)) (if_f one_ne rfl)) ?_
    rcases sp_both HB with ⟨e1, e2⟩ | ⟨e1, e2, e3⟩
    · exact OK_cm (if_t e1 rfl) (if_t e2 rfl) (OK_3 H)
    obtain ⟨pn, fl, f0, ln, tk, en, tc, q, w, d, e, h, t, hpn, hS⟩ := SP_of HB e3
    obtain ⟨γ1, μ1, T, u1, u2, u3, u4⟩ := ahead_both n hn HB hpn hS (EN.rf γ μ) x1 (nI s) x3 h2 h3
    exact OK_cm (if_f e1 (bd_g u1 rfl)) (if_f e2 (bd_g u2 rfl)) (OK_ret rfl (EN_Rl u4 H))
  unfold bc_X7_ahead_24 bm_ahead_21
  by_cases c2 : x1 = 2
  · have n3 : ¬ x1 = 3 := by rw [c2]; decide
    refine OK_cm (if_t c2 rfl) (if_t c2 rfl) ?_
    rcases plate_both n HB x3 with ⟨e1, e2⟩ | ⟨i, q, w, d, e, h, t, rfl, hi, e1, e2, hP⟩
    · exact OK_cm (bd_g e1 (oc_gn rfl rfl)) (bd_g e2 (if_t rfl rfl)) (OK_1 H)
    exact OK_cm (bd_g e1 (oc_gs rfl (if_f n3 rfl))) (bd_g e2 (if_f one_ne (if_f n3 rfl))) (last (fun _ => ⟨i, hi, rfl⟩) (fun h => absurd h n3))
  · refine OK_cm (if_f c2 rfl) (if_f c2 rfl) ?_
    by_cases c3 : x1 = 3
    · rcases floor_both n γ μ x3 with ⟨e1, e2⟩ | ⟨f, hf, rfl, e1, e2⟩
      · exact OK_cm (if_t c3 (bd_g e1 (if_t rfl rfl))) (if_t c3 (bd_g e2 (if_t rfl rfl))) (OK_1 H)
      · exact OK_cm (if_t c3 (bd_g e1 (if_f one_ne rfl))) (if_t c3 (bd_g e2 (if_f one_ne rfl))) (last (fun h => absurd h c2) (fun _ => ⟨f, hf, rfl⟩))
    · exact OK_cm (if_f c3 rfl) (if_f c3 rfl) (last (fun h => absurd h c2) (fun h => absurd h c3))
theorem abs_same {x : Int32} : (if 0 ≤ x then x else 0 - x) = if 0 ≤ x then x else -x := by
  by_cases c : 0 ≤ x
  · rw [if_pos c, if_pos c]
  · rw [if_neg c, if_neg c]; simp
theorem parts_loop (n : Nat) (hn : 10000 ≤ n) {γ0 : CS} {μ0 : MS} {np nl ng : Nat} (HB : RBn γ0 5 (live μ0) np nl ng) {pn fl f0 ln tk en tc q w d e h t : Nat} (hpn : pn < np) (hS : SP γ0 μ0 pn fl f0 ln tk en tc q w d e h t) {p f : Nat} (hp : p < np) (hf : f < 4) (x1 x2 x5 : Int32) : ∀ m i k γ μ b c, i + m = 5 → m < k → EN γ0 μ0 γ μ → OKE γ0 μ0 (lc_X7_parts_85 n k γ x1 x2 (nI p) (nI f) x5 b c (nI i)) (lm_parts_78 n k μ x1 x2 (nI p) (nI f) x5 b c (nI i)) := by
  intro m
  induction m with
  | zero =>
    intro i k γ μ b c hi hk hE
    obtain ⟨k, rfl⟩ : ∃ k', k = k' + 1 := ⟨k - 1, by omega⟩
    refine OKE_cm (show lc_X7_parts_85 n (k + 1) γ x1 x2 (nI p) (nI f) x5 b c (nI i) = _ from if_t (nI_lt (a := 4) (by omega) (by omega)) rfl) (show lm_parts_78 n (k + 1) μ x1 x2 (nI p) (nI f) x5 b c (nI i) = _ from if_t (nI_le (a := 5) (by omega) (by omega)) rfl) ?_
    by_cases c5 : x5 = 0
    · exact OKE_cm (if_t c5 rfl) (if_t c5 rfl) (OKE_ret rfl hE)
    · exact OKE_cm (if_f c5 rfl) (if_f c5 rfl) (OKE_ret rfl hE)
  | succ m ih =>
    intro i k γ μ b c hi hk hE
    obtain ⟨k, rfl⟩ : ∃ k', k = k' + 1 := ⟨k - 1, by omega⟩
    have main : ∀ told, (nI i = 2 → ∃ j, j < np ∧ told = nI j) → (nI i = 3 → ∃ g, g < 4 ∧ told = nI g) → OKE γ0 μ0 (bc_X7_parts_103 n (lc_X7_parts_85 n k) γ x1 x2 (nI p) (nI f) x5 b c (nI i) told) (bm_parts_96 n (lm_parts_78 n k) μ x1 x2 (nI p) (nI f) x5 b c (nI i) told) := fun told h2 h3 => by
      obtain ⟨γ1, μ1, T1, u1, u2, u3, u4⟩ := ahead_both n hn HB hpn hS hE (nI i) x1 told h2 h3
      obtain ⟨γ2, μ2, T2, v1, v2, v3, v4⟩ := ahead_both n hn HB hpn hS u4 (nI i) x2 told h2 h3
      unfold bc_X7_parts_103 bm_parts_96 bm_parts_132
      refine OKE_cm (bd_g u1 (bd_g v1 (sq_r abs_same rfl))) (bd_g u2 (bd_g v2 (sq_g (show _ = (if c < (if 0 ≤ nI T1 - nI T2 then nI T1 - nI T2 else -(nI T1 - nI T2)) then lm_parts_78 n k μ2 x1 x2 (nI p) (nI f) x5 (nI i) (if 0 ≤ nI T1 - nI T2 then nI T1 - nI T2 else -(nI T1 - nI T2)) (nI (i + 1)) else lm_parts_78 n k μ2 x1 x2 (nI p) (nI f) x5 b c (nI (i + 1))) from ?_)))) ?_
      · by_cases c0 : 0 ≤ nI T1 - nI T2
        · rw [if_pos c0, if_pos c0, nI_1]; rfl
        · rw [if_neg c0, if_neg c0, nI_1]; rfl
      · generalize (if 0 ≤ nI T1 - nI T2 then nI T1 - nI T2 else -(nI T1 - nI T2)) = off
        by_cases c1 : off ≤ c
        · exact OKE_cm (if_t c1 (sq_r (nI_1 i) rfl)) (if_f (ge_nlt c1) rfl) (ih (i + 1) k γ2 μ2 b c (by omega) (by omega) v4)
        · exact OKE_cm (if_f c1 (sq_r (nI_1 i) rfl)) (if_t (nle_gt c1) rfl) (ih (i + 1) k γ2 μ2 (nI i) off (by omega) (by omega) v4)
    refine OKE_cm (show lc_X7_parts_85 n (k + 1) γ x1 x2 (nI p) (nI f) x5 b c (nI i) = _ from if_f (nI_nlt (a := 4) (by omega) (by omega)) rfl) (show lm_parts_78 n (k + 1) μ x1 x2 (nI p) (nI f) x5 b c (nI i) = _ from if_f (nI_ge (b := 5) (by omega) (by omega)) rfl) ?_
    by_cases c2 : nI i = 2
    · exact OKE_cm (if_t c2 rfl) (if_t c2 rfl) (main (nI p) (fun _ => ⟨p, hp, rfl⟩) (fun h3 => by rw [c2] at h3; exact absurd h3 (by decide)))
    · exact OKE_cm (if_f c2 rfl) (if_f c2 rfl) (main (nI f) (fun h => absurd h c2) (fun _ => ⟨f, hf, rfl⟩))
theorem s_parts (n : Nat) (hn : 10000 ≤ n) : st_parts n Rl := by
  intro γ μ x1 x2 x3 x4 x5 H
  show OK _ _
  obtain ⟨np, nl, ng, HB⟩ := H.2.2.2.1
  have hnp := HB.1.1
  unfold fc_X7_parts fm_parts
  rcases set_both n HB x1 with ⟨e1, e2⟩ | ⟨-, e1, e2⟩
  · exact OK_cm (bd_g e1 (if_t rfl rfl)) (bd_g e2 (if_t rfl rfl)) (OK_1 H)
  refine OK_cm (bd_g e1 (if_f one_ne rfl)) (bd_g e2 (if_f one_ne rfl)) ?_
  rcases set_both n HB x2 with ⟨e1, e2⟩ | ⟨-, e1, e2⟩
  · exact OK_cm (bd_g e1 (if_t rfl rfl)) (bd_g e2 (if_t rfl rfl)) (OK_1 H)
  refine OK_cm (bd_g e1 (if_f one_ne rfl)) (bd_g e2 (if_f one_ne rfl)) ?_
  rcases plate_both n HB x3 with ⟨e1, e2⟩ | ⟨i, q, w, d, e, h, t, rfl, hi, e1, e2, hP⟩
  · exact OK_cm (bd_g e1 (oc_gn rfl rfl)) (bd_g e2 (if_t rfl rfl)) (OK_1 H)
  refine OK_cm (bd_g e1 (oc_gs rfl rfl)) (bd_g e2 (if_f one_ne rfl)) ?_
  rcases floor_both n γ μ x4 with ⟨e1, e2⟩ | ⟨f, hf, rfl, e1, e2⟩
  · exact OK_cm (bd_g e1 (if_t rfl rfl)) (bd_g e2 (if_t rfl rfl)) (OK_1 H)
  refine OK_cm (bd_g e1 (if_f one_ne rfl)) (bd_g e2 (if_f one_ne rfl)) ?_
  rcases zo_both n γ μ x5 with ⟨g1, g2⟩ | ⟨hx2, g1, g2⟩
  · exact OK_cm (bd_g g1 (if_t rfl rfl)) (bd_g g2 (if_t rfl rfl)) (OK_2 H)
  refine OK_cm (bd_g g1 (if_f one_ne rfl)) (bd_g g2 (if_f one_ne rfl)) ?_
  rcases sp_both HB with ⟨e1, e2⟩ | ⟨e1, e2, e3⟩
  · exact OK_cm (if_t e1 rfl) (if_t e2 rfl) (OK_3 H)
  obtain ⟨pn, fl, f0, ln, tk, en, tc, q, w, d, e, h, t, hpn, hS⟩ := SP_of HB e3
  exact OK_E H (OKE_cm (if_f e1 (sq_g (sq_g (sq_g rfl)))) (if_f e2 (sq_g (sq_g (sq_g rfl)))) (parts_loop n hn HB hpn hS hi hf x1 x2 x5 5 0 n γ μ 0 (-1) (by omega) (by omega) (EN.rf γ μ)))
