/-! floor, air, state, rolled, tenth, leg -/
theorem s_air (n : Nat) : st_air n Rl := by
  intro γ μ x1 H hx
  show OK _ _
  obtain ⟨np, nl, ng, HB⟩ := H.2.2.2.1
  obtain ⟨ha1, ha2⟩ := HB.2.2.2.2.1
  have ha1 : γ.1 5 11 = μ.1 0 12 := ha1
  have ha2 : γ.1 5 11 = 0 ∨ γ.1 5 11 = 1 := ha2
  have hzb : zb x1 = true := by rcases hx with rfl | rfl <;> rfl
  have hnew : Rl (cp γ 5 11 x1) (mp μ 0 12 x1) := Rl_mut H HB rfl (fun a ha => cp_ne _ _ _ _ (by omega)) (by simp [cp_1]) (by simp [cp_1]) rfl (fun a ha => mp_ne _ _ _ _ (by omega)) (fun k hk => by rw [mp_1, if_neg (by omega)]) rfl HB.1.2.2 ⟨by rw [cp_1, if_neg (by omega)]; exact HB.2.2.2.1.1, by rw [mp_1, if_neg (by omega)]; exact HB.2.2.2.1.2⟩ (by rw [cp_1, if_pos (by omega), mp_1, if_pos (by omega)]; exact ⟨rfl, hx⟩) (FLs_same HB (cp_ne _ _ _ _ (by omega)) (cp_ne _ _ _ _ (by omega)) (mp_ne _ _ _ _ (by omega)) (mp_ne _ _ _ _ (by omega))) (LGs_same HB (cp_ne _ _ _ _ (by omega)) (cp_ne _ _ _ _ (by omega)) (mp_ne _ _ _ _ (by omega)) (mp_ne _ _ _ _ (by omega))) (SPr_same HB rfl (fun a _ => cp_ne _ _ _ _ (by omega)) (fun a _ _ => cp_ne _ _ _ _ (by omega)) rfl (fun a _ => mp_ne _ _ _ _ (by omega)) (fun k _ _ => by rw [mp_1, if_neg (by omega)]) rfl) (ROr_same HB (cp_ne _ _ _ _ (by omega)) (cp_ne _ _ _ _ (by omega)) (mp_ne _ _ _ _ (by omega)) (by rw [mp_1, if_neg (by omega)]) (by rw [mp_1, if_neg (by omega)]))
  have hsame : μ.1 0 12 = x1 → mp μ 0 12 x1 = μ := fun e => by
    subst e
    refine Prod.ext ?_ rfl
    funext b k
    show (mp μ 0 12 (μ.1 0 12)).1 b k = μ.1 b k
    rw [mp_1]
    by_cases h : b = 0 ∧ k = 12
    · rw [if_pos h, h.1, h.2]
    · rw [if_neg h]
  unfold fc_X7_air fm_air bc_X7_air_16 bm_air_13
  rcases ha2 with e | e
  · have e' : μ.1 0 12 = 0 := ha1 ▸ e
    refine OK_cm rfl (if_f (by rw [e']; decide) rfl) ?_
    rcases hx with rfl | rfl
    · exact OK_cm (if_t e (ck_g hzb (sq_g rfl))) (if_t rfl rfl) (OK_ret rfl (by rw [hsame e'] at hnew; exact hnew))
    · exact OK_cm (if_f (by rw [e]; decide) (ck_g hzb (sq_g rfl))) (if_f (by decide) (if_f (by decide) (sq_g rfl))) (OK_ret rfl hnew)
  · have e' : μ.1 0 12 = 1 := ha1 ▸ e
    refine OK_cm rfl (if_t e' rfl) ?_
    rcases hx with rfl | rfl
    · exact OK_cm (if_f (by rw [e]; decide) (ck_g hzb (sq_g rfl))) (if_f (by decide) (if_t rfl (sq_g rfl))) (OK_ret rfl hnew)
    · exact OK_cm (if_t e (ck_g hzb (sq_g rfl))) (if_t rfl rfl) (OK_ret rfl (by rw [hsame e'] at hnew; exact hnew))
theorem s_floor (n : Nat) : st_floor n Rl := by
  intro γ μ x1 x2 x3 H
  show OK _ _
  obtain ⟨np, nl, ng, HB⟩ := H.2.2.2.1
  have hF := HB.2.2.2.2.2.2.2.2.1
  unfold fc_X7_floor fm_floor
  rcases floor_both n γ μ x1 with ⟨e1, e2⟩ | ⟨f, hf, rfl, e1, e2⟩
  · exact OK_cm (bd_g e1 (if_t rfl rfl)) (bd_g e2 (if_t rfl rfl)) (OK_1 H)
  refine OK_cm (bd_g e1 (if_f one_ne rfl)) (bd_g e2 (if_f one_ne rfl)) ?_
  rcases zo_both n γ μ x2 with ⟨g1, g2⟩ | ⟨hx2, g1, g2⟩
  · exact OK_cm (bd_g g1 (if_t rfl rfl)) (bd_g g2 (if_t rfl rfl)) (OK_2 H)
  refine OK_cm (bd_g g1 (if_f one_ne rfl)) (bd_g g2 (if_f one_ne rfl)) ?_
  by_cases c0 : 0 ≤ x3
  · by_cases c1 : x3 ≤ 9
    · obtain ⟨j, hj, rfl⟩ := in0 (b := 9) (by omega) c0 c1
      have ec : Int32.toNatClampNeg (nI f) = f := nI_clamp (by omega)
      have hib : ib (nI f) 4 = true := ib_nI (by omega) (by omega)
      have hnew : ∀ a, (a = 8 ∨ a = 9) → Rl (cp γ a f (nI j)) (mp μ a f (nI j)) := fun a ha => by
        refine Rl_mut H HB rfl (fun a' ha => cp_ne _ _ _ _ (by omega)) (by rw [cp_1, if_neg (by omega)]) (by rw [cp_1, if_neg (by omega)]) rfl (fun a ha => mp_ne _ _ _ _ (by omega)) (fun k hk => by rw [mp_1, if_neg (by omega)]) rfl HB.1.2.2 ⟨by rw [cp_1, if_neg (by omega)]; exact HB.2.2.2.1.1, by rw [mp_1, if_neg (by omega)]; exact HB.2.2.2.1.2⟩ (by rw [cp_1, if_neg (by omega), mp_1, if_neg (by omega)]; exact HB.2.2.2.2.1) ?_ (LGs_same HB (cp_ne _ _ _ _ (by omega)) (cp_ne _ _ _ _ (by omega)) (mp_ne _ _ _ _ (by omega)) (mp_ne _ _ _ _ (by omega))) (SPr_same HB rfl (fun a _ => cp_ne _ _ _ _ (by omega)) (fun a _ _ => cp_ne _ _ _ _ (by omega)) rfl (fun a _ => mp_ne _ _ _ _ (by omega)) (fun k _ _ => by rw [mp_1, if_neg (by omega)]) rfl) (ROr_same HB (cp_ne _ _ _ _ (by omega)) (cp_ne _ _ _ _ (by omega)) (mp_ne _ _ _ _ (by omega)) (by rw [mp_1, if_neg (by omega)]) (by rw [mp_1, if_neg (by omega)]))
        intro g hg
        obtain ⟨h, t, hh, ht, ⟨u1, u2⟩, u3, u4⟩ := hF g hg
        have u1 : γ.1 8 g = nI h := u1
        have u2 : μ.1 8 g = nI h := u2
        have u3 : γ.1 9 g = nI t := u3
        have u4 : μ.1 9 g = nI t := u4
        show ∃ h t : Nat, h ≤ 9 ∧ t ≤ 9 ∧ ((cp γ a f (nI j)).1 8 g = nI h ∧ (mp μ a f (nI j)).1 8 g = nI h) ∧ ((cp γ a f (nI j)).1 9 g = nI t ∧ (mp μ a f (nI j)).1 9 g = nI t)
        simp only [cp_1, mp_1]
        by_cases e : g = f
        · rcases ha with rfl | rfl
          · exact ⟨j, t, hj, ht, by simp [e], by simp [u3, u4]⟩
          · exact ⟨h, j, hh, hj, by simp [u1, u2], by simp [e]⟩
        · exact ⟨h, t, hh, ht, by simp [e, u1, u2], by simp [e, u3, u4]⟩
      obtain ⟨h, t, hh, ht, ⟨u1, u2⟩, u3, u4⟩ := hF f hf
      refine OK_cm (if_t c0 (if_t c1 rfl)) (bd_g (bnd_in n μ c0 c1) (if_t rfl rfl)) ?_
      unfold bm_floor_69
      by_cases c2 : x2 = 0
      · refine OK_cm (if_t c2 (ck_g hib (sq_g (ck_g hib (sq_r (x1 := cp γ 8 f (nI j)) (by rw [ec]) rfl))))) (if_t c2 (ck_g hib (sq_g (if_t c2 (ck_g hib (sq_r (x1 := mp μ 8 f (nI j)) (by rw [ec]) rfl)))))) (OK_ret ?_ (hnew 8 (by omega)))
        rw [ec]; exact u1.trans u2.symm
      · refine OK_cm (if_f c2 (ck_g hib (sq_g (ck_g hib (sq_r (x1 := cp γ 9 f (nI j)) (by rw [ec]) rfl))))) (if_f c2 (ck_g hib (sq_g (if_f c2 (ck_g hib (sq_r (x1 := mp μ 9 f (nI j)) (by rw [ec]) rfl)))))) (OK_ret ?_ (hnew 9 (by omega)))
        rw [ec]; exact u3.trans u4.symm
    · exact OK_cm (if_t c0 (if_f c1 rfl)) (bd_g (bnd_hi n μ c0 c1) (if_f (by decide) rfl)) (OK_6 H)
  · exact OK_cm (if_f c0 rfl) (bd_g (bnd_lo n μ c0) (if_f (by decide) rfl)) (OK_4 H)
/-- what spins -/
def SP (γ : CS) (μ : MS) (pn fl f0 ln tk en tc q w d e h t : Nat) : Prop := (pn < 6 ∧ fl ≤ 9000 ∧ f0 < 4 ∧ ln ≤ 9000 ∧ tk + (1 - en) ≤ 9999 ∧ en ≤ 4 ∧ tc ≤ 100) ∧ PLr γ 5 (live μ) pn q w d e h t ∧ (γ.1 12 1 = nI pn ∧ μ.1 0 39 = nI pn) ∧ (γ.1 12 2 = nI fl ∧ μ.1 0 44 = nI fl) ∧ (γ.1 12 3 = nI f0 ∧ μ.1 0 41 = nI f0) ∧ (γ.1 12 4 = nI ln ∧ μ.1 0 40 = nI ln) ∧ γ.1 12 5 = nI (TN ln d t) ∧ (γ.1 12 6 = nI tk ∧ μ.1 0 42 = nI tk) ∧ (γ.1 12 7 = nI en ∧ μ.1 0 43 = nI en) ∧ (γ.1 12 9 = nI tc ∧ μ.1 0 45 = nI tc) ∧ (∀ i, i < tc → γ.1 14 i = μ.1 19 i ∧ γ.1 15 i = μ.1 20 i)
theorem SP_of {γ : CS} {μ : MS} {np nl ng : Nat} (HB : RBn γ 5 (live μ) np nl ng) (h : γ.1 12 0 = 1) : ∃ pn fl f0 ln tk en tc q w d e h t, pn < np ∧ SP γ μ pn fl f0 ln tk en tc q w d e h t := by
  obtain ⟨pn, fl, f0, ln, tk, en, tc, q, w, d, e, h, t, r0, r⟩ := HB.2.2.2.2.2.2.2.2.2.2.1.2.2.2.2.2 h
  exact ⟨pn, fl, f0, ln, tk, en, tc, q, w, d, e, h, t, r0.1, ⟨by have := HB.1.1; omega, r0.2⟩, r⟩
theorem s_state (n : Nat) : st_state n Rl := by
  intro γ μ x1 H
  show OK _ _
  obtain ⟨np, nl, ng, HB⟩ := H.2.2.2.1
  unfold fc_X7_state fm_state
  rcases sp_both HB with ⟨e1, e2⟩ | ⟨e1, e2, e3⟩
  · exact OK_cm (if_t e1 rfl) (if_t e2 rfl) (OK_3 H)
  obtain ⟨pn, fl, f0, ln, tk, en, tc, q, w, d, e, h, t, hpn, r0, r1, r2, r3, r4, r5, r6, r7, r8, r9, r10⟩ := SP_of HB e3
  refine OK_cm (if_f e1 rfl) (if_f e2 rfl) ?_
  by_cases c0 : x1 = 0
  · exact OK_cm (if_t c0 rfl) (if_t c0 rfl) (OK_ret (r2.1.trans r2.2.symm) H)
  refine OK_cm (if_f c0 rfl) (if_f c0 rfl) ?_
  by_cases c0 : x1 = 1
  · exact OK_cm (if_t c0 rfl) (if_t c0 rfl) (OK_ret (r5.1.trans r5.2.symm) H)
  refine OK_cm (if_f c0 rfl) (if_f c0 rfl) ?_
  by_cases c0 : x1 = 2
  · obtain ⟨p1, p2, p3, p4, ⟨p50, p51, p52, p53, p54⟩, p6⟩ := r1
    exact OK_cm (if_t c0 rfl) (if_t c0 (bd_g (by rw [r2.2, r5.2]; exact mtone n μ (by omega) (by omega) (by omega) (by omega) p51 p54) rfl)) (OK_ret r6 H)
  refine OK_cm (if_f c0 rfl) (if_f c0 rfl) ?_
  by_cases c0 : x1 = 3
  · exact OK_cm (if_t c0 rfl) (if_t c0 rfl) (OK_ret (r7.1.trans r7.2.symm) H)
  refine OK_cm (if_f c0 rfl) (if_f c0 rfl) ?_
  by_cases c0 : x1 = 4
  · exact OK_cm (if_t c0 rfl) (if_t c0 rfl) (OK_ret (r8.1.trans r8.2.symm) H)
  refine OK_cm (if_f c0 rfl) (if_f c0 rfl) ?_
  by_cases c0 : x1 = 5
  · exact OK_cm (if_t c0 rfl) (if_t c0 rfl) (OK_ret (r4.1.trans r4.2.symm) H)
  refine OK_cm (if_f c0 rfl) (if_f c0 rfl) ?_
  by_cases c0 : x1 = 6
  · exact OK_cm (if_t c0 rfl) (if_t c0 rfl) (OK_ret (r9.1.trans r9.2.symm) H)
  exact OK_cm (if_f c0 rfl) (if_f c0 rfl) (OK_2 H)
theorem s_rolled (n : Nat) : st_rolled n Rl := by
  intro γ μ H
  obtain ⟨np, nl, ng, HB⟩ := H.2.2.2.1
  unfold fc_X7_rolled fm_rolled
  rcases sp_both HB with ⟨e1, e2⟩ | ⟨e1, e2, e3⟩
  · exact ⟨_, _, _, if_t e1 (bd_g (c_refuse n γ (k := 3) (by decide) (by decide)) rfl), if_t e2 (bd_g (m_no n μ (k := 3) (by decide) (by decide)) rfl), Rl_refuse H (by decide)⟩
  · refine ⟨_, _, _, if_f e1 rfl, if_f e2 ?_, H⟩
    rw [show γ.2.1 12 = μ.2 46 from HB.2.2.2.2.2.2.2.2.2.2.1.2.2.1]
theorem s_tenth (n : Nat) : st_tenth n Rl := by
  intro γ μ x1 x2 H
  show OK _ _
  obtain ⟨np, nl, ng, HB⟩ := H.2.2.2.1
  unfold fc_X7_tenth fm_tenth
  rcases zo_both n γ μ x2 with ⟨g1, g2⟩ | ⟨hx2, g1, g2⟩
  · exact OK_cm (bd_g g1 (if_t rfl rfl)) (bd_g g2 (if_t rfl rfl)) (OK_2 H)
  refine OK_cm (bd_g g1 (if_f one_ne rfl)) (bd_g g2 (if_f one_ne rfl)) ?_
  rcases sp_both HB with ⟨e1, e2⟩ | ⟨e1, e2, e3⟩
  · exact OK_cm (if_t e1 rfl) (if_t e2 rfl) (OK_3 H)
  obtain ⟨pn, fl, f0, ln, tk, en, tc, q, w, d, e, h, t, hpn, r0, r1, r2, r3, r4, r5, r6, r7, r8, r9, r10⟩ := SP_of HB e3
  refine OK_cm (if_f e1 rfl) (if_f e2 rfl) ?_
  by_cases c0 : 0 ≤ x1
  · obtain ⟨i, hi, rfl⟩ := ge0 c0
    refine OK_cm (if_t c0 rfl) (if_t c0 rfl) ?_
    unfold fc_X5_tenthOf
    have ec : Int32.toNatClampNeg (nI i) = i := nI_clamp hi
    by_cases c1 : i < tc
    · have hib : ib (nI i) 100 = true := ib_nI (by omega) (by omega)
      by_cases c2 : x2 = 0
      · exact OK_cm (bd_g (if_f (nI_pos hi) (if_f (by rw [r9.1]; exact nI_ge c1 (by omega)) (if_t (nI_lt (b := 100) (by omega) (by omega)) (if_t c2 (ck_g hib (sq_g rfl)))))) rfl) (if_t (by rw [r9.2]; exact nI_lt c1 (by omega)) (if_t c2 (ck_g hib (sq_g rfl)))) (OK_ret (by rw [ec]; exact (r10 i c1).1) H)
      · exact OK_cm (bd_g (if_f (nI_pos hi) (if_f (by rw [r9.1]; exact nI_ge c1 (by omega)) (if_t (nI_lt (b := 100) (by omega) (by omega)) (if_f c2 (ck_g hib (sq_g rfl)))))) rfl) (if_t (by rw [r9.2]; exact nI_lt c1 (by omega)) (if_f c2 (ck_g hib (sq_g rfl)))) (OK_ret (by rw [ec]; exact (r10 i c1).2) H)
    · exact OK_cm (bd_g (if_f (nI_pos hi) (if_t (by rw [r9.1]; exact nI_le (by omega) hi) rfl)) rfl) (if_f (by rw [r9.2]; exact nI_nlt (by omega) hi) rfl) (OK_ret rfl H)
  · exact OK_cm (if_f c0 rfl) (if_f c0 rfl) (OK_4 H)
theorem s_leg (n : Nat) : st_leg n Rl := by
  intro γ μ x1 x2 H
  show OK _ _
  obtain ⟨np, nl, ng, HB⟩ := H.2.2.2.1
  obtain ⟨g1, g2⟩ := HB.2.2.2.1
  have g1 : γ.1 5 10 = nI ng := g1
  have g2 : μ.1 0 52 = nI ng := g2
  have hng := HB.1.2.2
  have hL := HB.2.2.2.2.2.2.2.2.2.1
  unfold fc_X7_leg fm_leg
  rcases floor_both n γ μ x1 with ⟨e1, e2⟩ | ⟨f, hf, rfl, e1, e2⟩
  · exact OK_cm (bd_g e1 (if_t rfl rfl)) (bd_g e2 (if_t rfl rfl)) (OK_1 H)
  refine OK_cm (bd_g e1 (if_f one_ne rfl)) (bd_g e2 (if_f one_ne rfl)) ?_
  by_cases c0 : 1 ≤ x2
  · by_cases c1 : x2 ≤ 999
    · obtain ⟨j, hj0, hj, rfl⟩ := in1 (a := 1) (b := 999) (by omega) (by omega) c0 c1
      refine OK_cm (if_t c0 (if_f (ge_nlt c1) rfl)) (bd_g (bnd_in n μ c0 c1) (if_t rfl rfl)) ?_
      by_cases c2 : ng < 4
      · have ec : Int32.toNatClampNeg (nI ng) = ng := nI_clamp (by omega)
        have hib : ib (nI ng) 4 = true := ib_nI (by omega) (by omega)
        have ea : fc_X0_addLeg n γ (nI f) (nI j) = some (nI (ng + 1), cp (cp (cp γ 10 ng (nI f)) 11 ng (nI j)) 5 10 (nI (ng + 1))) := by
          unfold fc_X0_addLeg
          have e3 : (cp γ 10 ng (nI f)).1 5 10 = nI ng := by rw [cp_ne _ _ _ _ (by omega)]; exact g1
          have e4 : (cp (cp γ 10 ng (nI f)) 11 ng (nI j)).1 5 10 = nI ng := by rw [cp_ne _ _ _ _ (by omega)]; exact e3
          have e5 : (cp (cp (cp γ 10 ng (nI f)) 11 ng (nI j)) 5 10 (nI (ng + 1))).1 5 10 = nI (ng + 1) := by rw [cp_1, if_pos (by omega)]
          refine if_f (by rw [g1]; exact nI_pos (by omega)) (if_f (by rw [g1]; exact nI_ge (b := 4) (by omega) (by omega)) (ck_g (by rw [g1]; exact hib) (sq_r (x1 := cp γ 10 ng (nI f)) (by rw [g1, ec]) (ck_g (by rw [e3]; exact hib) (sq_r (x1 := cp (cp γ 10 ng (nI f)) 11 ng (nI j)) (by rw [e3, ec]) (sq_r (x1 := cp (cp (cp γ 10 ng (nI f)) 11 ng (nI j)) 5 10 (nI (ng + 1))) (by rw [e4, nI_1]) (by rw [e5])))))))
        have eb : bm_leg_37 n μ (nI f) (nI j) 0 = some (nI (ng + 1), mp (mp (mp μ 22 ng (nI f)) 23 ng (nI j)) 0 52 (nI (ng + 1))) := by
          unfold bm_leg_37
          have e3 : (mp μ 22 ng (nI f)).1 0 52 = nI ng := by rw [mp_ne _ _ _ _ (by omega)]; exact g2
          have e4 : (mp (mp μ 22 ng (nI f)) 23 ng (nI j)).1 0 52 = nI ng := by rw [mp_ne _ _ _ _ (by omega)]; exact e3
          have e5 : (mp (mp (mp μ 22 ng (nI f)) 23 ng (nI j)) 0 52 (nI (ng + 1))).1 0 52 = nI (ng + 1) := by rw [mp_1, if_pos (by omega)]
          refine if_t rfl (ck_g (by rw [g2]; exact hib) (sq_r (x1 := mp μ 22 ng (nI f)) (by rw [g2, ec]) (ck_g (by rw [e3]; exact hib) (sq_r (x1 := mp (mp μ 22 ng (nI f)) 23 ng (nI j)) (by rw [e3, ec]) (sq_r (x1 := mp (mp (mp μ 22 ng (nI f)) 23 ng (nI j)) 0 52 (nI (ng + 1))) (by rw [e4, nI_1]) (by rw [e5]))))))
        refine OK_cm (if_t (by rw [g1]; exact nI_lt (b := 4) (by omega) (by omega)) (bd_g ea rfl)) (if_f (by rw [g2]; exact fun h => absurd ((nI_eq (b := 4) (by omega) (by omega)).mp h) (by omega)) eb) (OK_ret rfl ?_)
        have qC : ∀ a, a ≠ 5 → a ≠ 10 → a ≠ 11 → (cp (cp (cp γ 10 ng (nI f)) 11 ng (nI j)) 5 10 (nI (ng + 1))).1 a = γ.1 a := fun a h1 h2 h3 => by rw [cp_ne _ _ _ _ h1, cp_ne _ _ _ _ h3, cp_ne _ _ _ _ h2]
        have qM : ∀ a, a ≠ 0 → a ≠ 22 → a ≠ 23 → (mp (mp (mp μ 22 ng (nI f)) 23 ng (nI j)) 0 52 (nI (ng + 1))).1 a = μ.1 a := fun a h1 h2 h3 => by rw [mp_ne _ _ _ _ h1, mp_ne _ _ _ _ h3, mp_ne _ _ _ _ h2]
        have q5 : ∀ k, k ≠ 10 → (cp (cp (cp γ 10 ng (nI f)) 11 ng (nI j)) 5 10 (nI (ng + 1))).1 5 k = γ.1 5 k := fun k hk => by rw [cp_1, if_neg (by omega), cp_ne _ _ _ _ (by omega), cp_ne _ _ _ _ (by omega)]
        have q0 : ∀ k, k ≠ 52 → (mp (mp (mp μ 22 ng (nI f)) 23 ng (nI j)) 0 52 (nI (ng + 1))).1 0 k = μ.1 0 k := fun k hk => by rw [mp_1, if_neg (by omega), mp_ne _ _ _ _ (by omega), mp_ne _ _ _ _ (by omega)]
        refine Rl_mut (ng1 := ng + 1) H HB rfl (fun a ha => qC a (by omega) (by omega) (by omega)) (q5 _ (by omega)) (q5 _ (by omega)) rfl (fun a ha => qM a (by omega) (by omega) (by omega)) (fun k hk => q0 k (by omega)) rfl (by omega) ⟨by rw [cp_1, if_pos (by omega)], by rw [mp_1, if_pos (by omega)]⟩ (by rw [q5 11 (by omega), q0 12 (by omega)]; exact HB.2.2.2.2.1) (FLs_same HB (qC _ (by omega) (by omega) (by omega)) (qC _ (by omega) (by omega) (by omega)) (qM _ (by omega) (by omega) (by omega)) (qM _ (by omega) (by omega) (by omega))) ?_ (SPr_same HB rfl (fun a _ => qC a (by omega) (by omega) (by omega)) (fun a _ _ => qC a (by omega) (by omega) (by omega)) rfl (fun a _ => qM a (by omega) (by omega) (by omega)) (fun k _ _ => q0 k (by omega)) rfl) (ROr_same HB (qC _ (by omega) (by omega) (by omega)) (qC _ (by omega) (by omega) (by omega)) (qM _ (by omega) (by omega) (by omega)) (q0 _ (by omega)) (q0 _ (by omega)))
        intro i hi
        show ∃ f' t : Nat, f' < 4 ∧ 1 ≤ t ∧ t ≤ 999 ∧ ((cp (cp (cp γ 10 ng (nI f)) 11 ng (nI j)) 5 10 (nI (ng + 1))).1 10 i = nI f' ∧ (mp (mp (mp μ 22 ng (nI f)) 23 ng (nI j)) 0 52 (nI (ng + 1))).1 22 i = nI f') ∧ ((cp (cp (cp γ 10 ng (nI f)) 11 ng (nI j)) 5 10 (nI (ng + 1))).1 11 i = nI t ∧ (mp (mp (mp μ 22 ng (nI f)) 23 ng (nI j)) 0 52 (nI (ng + 1))).1 23 i = nI t)
        simp only [cp_1, mp_1]
        by_cases e : i = ng
        · exact ⟨f, j, hf, hj0, hj, by simp [e], by simp [e]⟩
        · obtain ⟨f', t', k1, k2, k3, ⟨u1, u2⟩, u3, u4⟩ := hL i (by omega)
          have u1 : γ.1 10 i = nI f' := u1
          have u2 : μ.1 22 i = nI f' := u2
          have u3 : γ.1 11 i = nI t' := u3
          have u4 : μ.1 23 i = nI t' := u4
          exact ⟨f', t', k1, k2, k3, by simp [e, u1, u2], by simp [e, u3, u4]⟩
      · have : ng = 4 := by omega
        subst this
        exact OK_cm (if_f (by rw [g1]; decide) rfl) (if_t (by rw [g2]; decide) (sq_g (if_f (by decide) rfl))) (OK_6 H)
    · exact OK_cm (if_t c0 (if_t (nle_gt c1) rfl)) (bd_g (bnd_hi n μ c0 c1) (if_f (by decide) (if_f (by decide) rfl))) (OK_6 H)
  · exact OK_cm (if_f c0 rfl) (bd_g (bnd_lo n μ c0) (if_f (by decide) (if_f (by decide) rfl))) (OK_4 H)
