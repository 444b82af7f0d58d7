/-! a call of both; refusals; what both ask first -/
def OK (F : Option (Int32 × CS)) (G : Option (Int32 × MS)) : Prop := ∃ (r : Int32) (γ1 : CS) (μ1 : MS), F = some (r, γ1) ∧ G = some (r, μ1) ∧ Rl γ1 μ1
theorem OK_cm {F F1 : Option (Int32 × CS)} {G G1 : Option (Int32 × MS)} (e : F = F1) (g : G = G1) (h : OK F1 G1) : OK F G := by subst e; subst g; exact h
theorem OK_ret {r r1 : Int32} {γ : CS} {μ : MS} (e : r = r1) (H : Rl γ μ) : OK (some (r, γ)) (some (r1, μ)) := by subst e; exact ⟨r, γ, μ, rfl, rfl, H⟩
theorem RFr_up {γ : CS} {μ : MS} (h : RFr γ μ) {k : Nat} (hk : 1 ≤ k ∧ k ≤ 6) : RFr (cp γ 4 k (γ.1 4 k + 1)) (mp μ 1 k (μ.1 1 k + 1)) := fun j h1 h2 => by
  rw [cp_1, mp_1]
  by_cases e : j = k
  · rw [if_pos ⟨rfl, e⟩, if_pos ⟨rfl, e⟩, h k hk.1 hk.2]
  · rw [if_neg (fun h => e h.2), if_neg (fun h => e h.2)]; exact h j h1 h2
theorem Rl_refuse {γ : CS} {μ : MS} (H : Rl γ μ) {k : Nat} (hk : 1 ≤ k ∧ k ≤ 6) : Rl (cp γ 4 k (γ.1 4 k + 1)) (mp μ 1 k (μ.1 1 k + 1)) :=
  Rl_base H rfl (fun a ha => cp_ne _ _ _ _ (by omega)) (fun a ha => mp_ne _ _ _ _ (by omega)) (fun j _ => by rw [mp_ne _ _ _ _ (by decide)]) rfl (by rw [cp_ne _ _ _ _ (by decide)]) (by rw [mp_ne _ _ _ _ (by decide)]) (by
    obtain ⟨len, h1, h2, h3⟩ := H.2.2.2.2.1
    refine ⟨len, h1, ?_, ?_⟩
    · rw [cp_ne _ _ _ _ (by decide), mp_ne _ _ _ _ (by decide)]; exact h2
    · rw [cp_ne _ _ _ _ (by decide), mp_ne _ _ _ _ (by decide)]; exact h3) (RFr_up H.2.2.2.2.2.1 hk)
theorem c_refuse (n : Nat) (γ : CS) {x : Int32} {k : Nat} (hk : 1 ≤ k ∧ k ≤ 6) (e : -x = nI k) : fc_X7_refuse n γ x = some (x, cp γ 4 k (γ.1 4 k + 1)) := by
  unfold fc_X7_refuse
  have ec : Int32.toNatClampNeg (nI k) = k := nI_clamp (by omega)
  refine sq_r e (if_f (nI_nlt (b := 1) hk.1 (by omega)) (if_f (nI_ge (b := 7) (by omega) (by omega)) (ck_g (ib_nI (by omega) (by omega)) (sq_r (x1 := γ.1 4 k) (by rw [ec]) (ck_g (ib_nI (by omega) (by omega)) (sq_r (x1 := cp γ 4 k (γ.1 4 k + 1)) (by rw [ec]) rfl))))))
theorem m_no (n : Nat) (μ : MS) {x : Int32} {k : Nat} (hk : 1 ≤ k ∧ k ≤ 6) (e : -x = nI k) : fm_no n μ x = some (x, mp μ 1 k (μ.1 1 k + 1)) := by
  unfold fm_no
  have ec : Int32.toNatClampNeg (nI k) = k := nI_clamp (by omega)
  rw [e]
  refine ck_g (ib_nI (by omega) (by omega)) (sq_r (x1 := μ.1 1 k) (by rw [ec]) (ck_g (ib_nI (by omega) (by omega)) (sq_r (x1 := mp μ 1 k (μ.1 1 k + 1)) (by rw [ec]) rfl)))
theorem OK_no {n : Nat} {γ : CS} {μ : MS} {x : Int32} (k : Nat) (H : Rl γ μ) (hk : 1 ≤ k ∧ k ≤ 6) (e : -x = nI k) : OK (bd (fc_X7_refuse n γ x) (fun r s => some (r, s))) (bd (fm_no n μ x) (fun r s => some (r, s))) :=
  OK_cm (bd_g (c_refuse n γ hk e) rfl) (bd_g (m_no n μ hk e) rfl) (OK_ret rfl (Rl_refuse H hk))
theorem OK_1 {n : Nat} {γ : CS} {μ : MS} (H : Rl γ μ) : OK (bd (fc_X7_refuse n γ (-1)) (fun r s => some (r, s))) (bd (fm_no n μ (-1)) (fun r s => some (r, s))) := OK_no 1 H (by decide) (by decide)
theorem OK_2 {n : Nat} {γ : CS} {μ : MS} (H : Rl γ μ) : OK (bd (fc_X7_refuse n γ (-2)) (fun r s => some (r, s))) (bd (fm_no n μ (-2)) (fun r s => some (r, s))) := OK_no 2 H (by decide) (by decide)
theorem OK_3 {n : Nat} {γ : CS} {μ : MS} (H : Rl γ μ) : OK (bd (fc_X7_refuse n γ (-3)) (fun r s => some (r, s))) (bd (fm_no n μ (-3)) (fun r s => some (r, s))) := OK_no 3 H (by decide) (by decide)
theorem OK_4 {n : Nat} {γ : CS} {μ : MS} (H : Rl γ μ) : OK (bd (fc_X7_refuse n γ (-4)) (fun r s => some (r, s))) (bd (fm_no n μ (-4)) (fun r s => some (r, s))) := OK_no 4 H (by decide) (by decide)
theorem OK_6 {n : Nat} {γ : CS} {μ : MS} (H : Rl γ μ) : OK (bd (fc_X7_refuse n γ (-6)) (fun r s => some (r, s))) (bd (fm_no n μ (-6)) (fun r s => some (r, s))) := OK_no 6 H (by decide) (by decide)
/-! what both ask first -/
theorem bnd_lo (n : Nat) (μ : MS) {x a b : Int32} (h : ¬ a ≤ x) : fm_bound n μ x a b = some (-4, μ) := if_f h rfl
theorem bnd_hi (n : Nat) (μ : MS) {x a b : Int32} (h : a ≤ x) (g : ¬ x ≤ b) : fm_bound n μ x a b = some (-6, μ) := if_t h (if_f g rfl)
theorem bnd_in (n : Nat) (μ : MS) {x a b : Int32} (h : a ≤ x) (g : x ≤ b) : fm_bound n μ x a b = some (0, μ) := if_t h (if_t g rfl)
theorem ge0 {x : Int32} (h : 0 ≤ x) : ∃ j : Nat, j < 2 ^ 31 ∧ x = nI j := nI_of (fun h2 => by rw [Int32.le_iff_toInt_le] at h; rw [Int32.lt_iff_toInt_lt] at h2; omega)
theorem nlt_ge {x y : Int32} (h : ¬ x < y) : y ≤ x := by rw [Int32.lt_iff_toInt_lt] at h; rw [Int32.le_iff_toInt_le]; omega
theorem nle_gt {x y : Int32} (h : ¬ x ≤ y) : y < x := by rw [Int32.le_iff_toInt_le] at h; rw [Int32.lt_iff_toInt_lt]; omega
theorem gt_nle {x y : Int32} (h : y < x) : ¬ x ≤ y := by rw [Int32.le_iff_toInt_le]; rw [Int32.lt_iff_toInt_lt] at h; omega
theorem ge_nlt {x y : Int32} (h : y ≤ x) : ¬ x < y := by rw [Int32.lt_iff_toInt_lt]; rw [Int32.le_iff_toInt_le] at h; omega
theorem in0 {x : Int32} {b : Nat} (hb : b < 2 ^ 31) (h : 0 ≤ x) (g : x ≤ nI b) : ∃ j : Nat, j ≤ b ∧ x = nI j := by
  obtain ⟨j, hj, rfl⟩ := ge0 h
  exact ⟨j, (nI_leI hj hb).mp g, rfl⟩
theorem in1 {x : Int32} {a b : Nat} (hb : b < 2 ^ 31) (ha : a < 2 ^ 31) (h : nI a ≤ x) (g : x ≤ nI b) : ∃ j : Nat, a ≤ j ∧ j ≤ b ∧ x = nI j := by
  have h0 : (0 : Int32) ≤ x := by
    have e := nI_toInt ha
    have e0 : (0 : Int32).toInt = 0 := by decide
    rw [Int32.le_iff_toInt_le] at *; omega
  obtain ⟨j, hj, rfl⟩ := ge0 h0
  exact ⟨j, (nI_leI ha hj).mp h, (nI_leI hj hb).mp g, rfl⟩
theorem plate_both (n : Nat) {γ : CS} {μ : MS} {np nl ng : Nat} (H : RBn γ 5 (live μ) np nl ng) (x : Int32) : (fc_X0_plateAt n γ x = some (none, γ) ∧ fm_isPlate n μ x = some (0, μ)) ∨ ∃ i q w d e h t : Nat, x = nI i ∧ i < np ∧ fc_X0_plateAt n γ x = some (some q, γ) ∧ fm_isPlate n μ x = some (1, μ) ∧ PLr γ 5 (live μ) i q w d e h t := by
  have h1 : γ.1 5 8 = nI np := H.2.1.1
  have h2 : μ.1 0 11 = nI np := H.2.1.2
  have hnp := H.1.1
  by_cases c0 : x < 0
  · exact Or.inl ⟨if_t c0 rfl, if_t c0 rfl⟩
  · obtain ⟨i, hi, rfl⟩ := nI_of c0
    by_cases c1 : i < np
    · obtain ⟨q, w, d, e, h, t, hP⟩ := H.2.2.2.2.2.1 i c1
      refine Or.inr ⟨i, q, w, d, e, h, t, rfl, c1, if_f c0 (if_f (by rw [h1]; exact nI_ge c1 (by omega)) (if_f (nI_ge (b := 6) (by omega) (by omega)) (ck_g (ib_nI (by omega) (by omega)) (sq_r (x1 := some q) (by rw [nI_clamp hi]; exact hP.1) rfl)))), if_f c0 (if_f (by rw [h2]; exact nI_ge c1 (by omega)) rfl), hP⟩
    · exact Or.inl ⟨if_f c0 (if_t (by rw [h1]; exact nI_le (by omega) hi) rfl), if_f c0 (if_t (by rw [h2]; exact nI_le (by omega) hi) rfl)⟩
theorem loss_both (n : Nat) {γ : CS} {μ : MS} {np nl ng : Nat} (H : RBn γ 5 (live μ) np nl ng) (x : Int32) : (fc_X0_lossAt n γ x = some (none, γ) ∧ fm_isLoss n μ x = some (0, μ)) ∨ ∃ i q a s cs fr kd f t, x = nI i ∧ i < nl ∧ fc_X0_lossAt n γ x = some (some q, γ) ∧ fm_isLoss n μ x = some (1, μ) ∧ LSr γ 5 (live μ) i q a s cs fr kd f t := by
  have h1 : γ.1 5 9 = nI nl := H.2.2.1.1
  have h2 : μ.1 0 21 = nI nl := H.2.2.1.2
  have hnl := H.1.2.1
  by_cases c0 : x < 0
  · exact Or.inl ⟨if_t c0 rfl, if_t c0 rfl⟩
  · obtain ⟨i, hi, rfl⟩ := nI_of c0
    by_cases c1 : i < nl
    · obtain ⟨q, a, s, cs, fr, kd, f, t, hP⟩ := H.2.2.2.2.2.2.1 i c1
      exact Or.inr ⟨i, q, a, s, cs, fr, kd, f, t, rfl, c1, lossAt_s n γ c1 hnl h1 hP.1, if_f c0 (if_f (by rw [h2]; exact nI_ge c1 (by omega)) rfl), hP⟩
    · exact Or.inl ⟨lossAt_n n γ (by omega) hi h1, if_f c0 (if_t (by rw [h2]; exact nI_le (by omega) hi) rfl)⟩
theorem floor_both (n : Nat) (γ : CS) (μ : MS) (x : Int32) : (fc_X7_isFloor n γ x = some (0, γ) ∧ fm_isFloor n μ x = some (0, μ)) ∨ ∃ f : Nat, f < 4 ∧ x = nI f ∧ fc_X7_isFloor n γ x = some (1, γ) ∧ fm_isFloor n μ x = some (1, μ) := by
  by_cases c0 : x < 0
  · exact Or.inl ⟨if_t c0 rfl, if_t c0 rfl⟩
  · by_cases c1 : 4 ≤ x
    · exact Or.inl ⟨if_f c0 (if_t c1 rfl), if_f c0 (if_t c1 rfl)⟩
    · obtain ⟨i, hi, rfl⟩ := nI_of c0
      exact Or.inr ⟨i, by
        by_cases h : i < 4
        · exact h
        · exact absurd (nI_le (a := 4) (by omega) hi) c1, rfl, if_f c0 (if_f c1 rfl), if_f c0 (if_f c1 rfl)⟩
theorem zo_both (n : Nat) (γ : CS) (μ : MS) (x : Int32) : (fc_X7_isZeroOrOne n γ x = some (0, γ) ∧ fm_isIn n μ x 0 1 = some (0, μ)) ∨ ((x = 0 ∨ x = 1) ∧ fc_X7_isZeroOrOne n γ x = some (1, γ) ∧ fm_isIn n μ x 0 1 = some (1, μ)) := by
  by_cases c0 : x = 0
  · subst c0; exact Or.inr ⟨Or.inl rfl, rfl, rfl⟩
  · by_cases c1 : x = 1
    · subst c1; exact Or.inr ⟨Or.inr rfl, rfl, rfl⟩
    · refine Or.inl ⟨if_f c0 (if_f c1 rfl), ?_⟩
      by_cases c2 : x < 0
      · exact if_t c2 rfl
      · obtain ⟨i, hi, rfl⟩ := nI_of c2
        have : i ≠ 0 := fun h => c0 (by subst h; rfl)
        have : i ≠ 1 := fun h => c1 (by subst h; rfl)
        exact if_f c2 (if_t (nI_lt (a := 1) (by omega) hi) rfl)
theorem lean_both (n : Nat) (γ : CS) (μ : MS) (x : Int32) : (∃ r : Int32, (r = -4 ∨ r = -6) ∧ fc_X7_leanRefusal n γ x = some (r, γ) ∧ fm_bound n μ x 0 9000 = some (r, μ)) ∨ ∃ l : Nat, l ≤ 9000 ∧ x = nI l ∧ fc_X7_leanRefusal n γ x = some (0, γ) ∧ fm_bound n μ x 0 9000 = some (0, μ) := by
  by_cases c0 : 0 ≤ x
  · by_cases c1 : x ≤ 9000
    · obtain ⟨j, hj, rfl⟩ := in0 (b := 9000) (by omega) c0 c1
      exact Or.inr ⟨j, hj, rfl, if_t c0 (if_t c1 rfl), if_t c0 (if_t c1 rfl)⟩
    · exact Or.inl ⟨-6, Or.inr rfl, if_t c0 (if_f c1 rfl), if_t c0 (if_f c1 rfl)⟩
  · exact Or.inl ⟨-4, Or.inl rfl, if_f c0 rfl, if_f c0 rfl⟩
theorem OK_46 {n : Nat} {γ : CS} {μ : MS} {r : Int32} (H : Rl γ μ) (h : r = -4 ∨ r = -6) : OK (bd (fc_X7_refuse n γ r) (fun r s => some (r, s))) (bd (fm_no n μ r) (fun r s => some (r, s))) := by
  rcases h with rfl | rfl
  · exact OK_4 H
  · exact OK_6 H
theorem ne46 {r : Int32} (h : r = -4 ∨ r = -6) : ¬ r = 0 := by rcases h with rfl | rfl <;> decide
theorem one_ne : ¬ ((1 : Int32) = 0) := by decide
/-- spins or not -/
theorem sp_both {γ : CS} {μ : MS} {np nl ng : Nat} (H : RBn γ 5 (live μ) np nl ng) : (γ.1 12 0 = 0 ∧ μ.1 0 38 = 0) ∨ (¬ γ.1 12 0 = 0 ∧ ¬ μ.1 0 38 = 0 ∧ γ.1 12 0 = 1) := by
  have h := H.2.2.2.2.2.2.2.2.2.2.1
  have e : γ.1 12 0 = μ.1 0 38 := h.1
  rcases h.2.1 with c | c
  · exact Or.inl ⟨c, by rw [← e]; exact c⟩
  · exact Or.inr ⟨by rw [show γ.1 12 0 = 1 from c]; decide, by rw [← e, show γ.1 12 0 = 1 from c]; decide, c⟩
theorem s_plateOf (n : Nat) : st_plateOf n Rl := by
  intro γ μ x1 x2 H
  show OK _ _
  obtain ⟨np, nl, ng, HB⟩ := H.2.2.2.1
  unfold fc_X7_plateOf fm_plateOf
  rcases plate_both n HB x1 with ⟨e1, e2⟩ | ⟨i, q, w, d, e, h, t, rfl, hi, e1, e2, hP⟩
  · exact OK_cm (bd_g e1 (oc_gn rfl rfl)) (bd_g e2 (if_t rfl rfl)) (OK_1 H)
  · have hnp := HB.1.1
    have ec : Int32.toNatClampNeg (nI i) = i := nI_clamp (by omega)
    have hib : ib (nI i) 7 = true := ib_nI (by omega) (by omega)
    obtain ⟨p1, p2, p3, ⟨p40, p41, p42, p43, p44⟩, ⟨p50, p51, p52, p53, p54⟩, p6⟩ := hP
    refine OK_cm (bd_g e1 (oc_gs rfl rfl)) (bd_g e2 (if_f one_ne rfl)) ?_
    by_cases c0 : x2 = 0
    · exact OK_cm (if_t c0 (ck_g p2 rfl)) (if_t c0 (ck_g hib (sq_g rfl))) (OK_ret (by rw [ec, p40]; exact p50.symm) H)
    refine OK_cm (if_f c0 rfl) (if_f c0 rfl) ?_
    by_cases c0 : x2 = 1
    · exact OK_cm (if_t c0 (ck_g p2 rfl)) (if_t c0 (ck_g hib (sq_g rfl))) (OK_ret (by rw [ec, p41]; exact p51.symm) H)
    refine OK_cm (if_f c0 rfl) (if_f c0 rfl) ?_
    by_cases c0 : x2 = 2
    · exact OK_cm (if_t c0 (ck_g p2 rfl)) (if_t c0 (ck_g hib (sq_g rfl))) (OK_ret (by rw [ec, p42]; exact p52.symm) H)
    refine OK_cm (if_f c0 rfl) (if_f c0 rfl) ?_
    by_cases c0 : x2 = 3
    · exact OK_cm (if_t c0 (ck_g p2 rfl)) (if_t c0 (ck_g hib (sq_g rfl))) (OK_ret (by rw [ec, p43]; exact p53.symm) H)
    refine OK_cm (if_f c0 rfl) (if_f c0 rfl) ?_
    by_cases c0 : x2 = 4
    · exact OK_cm (if_t c0 (ck_g p2 rfl)) (if_t c0 (ck_g hib (sq_g rfl))) (OK_ret (by rw [ec, p44]; exact p54.symm) H)
    exact OK_cm (if_f c0 rfl) (if_f c0 rfl) (OK_2 H)
theorem s_lossOf (n : Nat) : st_lossOf n Rl := by
  intro γ μ x1 x2 H
  show OK _ _
  obtain ⟨np, nl, ng, HB⟩ := H.2.2.2.1
  unfold fc_X7_lossOf fm_lossOf
  rcases loss_both n HB x1 with ⟨e1, e2⟩ | ⟨i, q, a, s, cs, fr, kd, f, t, rfl, hi, e1, e2, hP⟩
  · exact OK_cm (bd_g e1 (oc_gn rfl rfl)) (bd_g e2 (if_t rfl rfl)) (OK_1 H)
  · have hnl := HB.1.2.1
    have ec : Int32.toNatClampNeg (nI i) = i := nI_clamp (by omega)
    have hib : ib (nI i) 9 = true := ib_nI (by omega) (by omega)
    obtain ⟨p1, p2, p3, ⟨p40, p41, p42⟩, ⟨p50, p51, p52⟩, p6⟩ := hP
    refine OK_cm (bd_g e1 (oc_gs rfl rfl)) (bd_g e2 (if_f one_ne rfl)) ?_
    by_cases c0 : x2 = 0
    · exact OK_cm (if_t c0 (ck_g p2.1 rfl)) (if_t c0 (ck_g hib (sq_g rfl))) (OK_ret (by rw [ec, p40]; exact p50.symm) H)
    refine OK_cm (if_f c0 rfl) (if_f c0 rfl) ?_
    by_cases c0 : x2 = 1
    · exact OK_cm (if_t c0 (ck_g p2.1 rfl)) (if_t c0 (ck_g hib (sq_g rfl))) (OK_ret (by rw [ec, p41]; exact p51.symm) H)
    refine OK_cm (if_f c0 rfl) (if_f c0 rfl) ?_
    by_cases c0 : x2 = 2
    · exact OK_cm (if_t c0 (ck_g p2.1 rfl)) (if_t c0 (ck_g hib (sq_g rfl))) (OK_ret (by rw [ec, p42]; exact p52.symm) H)
    refine OK_cm (if_f c0 rfl) (if_f c0 rfl) ?_
    by_cases c0 : x2 = 3
    · have hk : γ.1 13 i = μ.1 13 i := HB.2.2.2.2.2.2.2.2.2.2.1.2.2.2.1 i hi
      have etk : fc_X5_tookOf n γ (nI i) = some (γ.1 13 i, γ) := if_f (nI_pos (by omega)) (if_f (nI_ge (b := 8) (by omega) (by omega)) (ck_g (ib_nI (by omega) (by omega)) (sq_g (by rw [ec]))))
      exact OK_cm (if_t c0 (bd_g etk rfl)) (if_t c0 (ck_g hib (sq_g rfl))) (OK_ret (by rw [ec]; exact hk) H)
    exact OK_cm (if_f c0 rfl) (if_f c0 rfl) (OK_2 H)
