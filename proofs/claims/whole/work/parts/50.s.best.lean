/-! bestFor, trust -/
theorem ME_edge {μ0 μ : MS} {p : Nat} {v : Int32} (v1 : Int32) (h : ME (mp μ0 5 p v) μ) : ME (mp μ0 5 p v1) (mp μ 5 p v1) := by
  refine ⟨h.1, fun a h1 h2 h3 => ?_, fun k hk => ?_⟩
  · funext j
    have e := congrFun (h.2.1 a h1 h2 h3) j
    rw [mp_1] at e
    rw [mp_1, mp_1]
    by_cases c : a = 5 ∧ j = p
    · rw [if_pos c, if_pos c]
    · rw [if_neg c] at e; rw [if_neg c, if_neg c]; exact e
  · have e := h.2.2 k hk
    rw [mp_ne _ _ _ _ (by decide)] at e
    rw [mp_ne _ _ _ _ (by decide), mp_ne _ _ _ _ (by decide)]
    exact e
theorem mp_same (μ : MS) (a k : Nat) : mp μ a k (μ.1 a k) = μ := by
  refine Prod.ext ?_ rfl
  funext b j
  show (mp μ a k (μ.1 a k)).1 b j = μ.1 b j
  rw [mp_1]
  by_cases h : b = a ∧ j = k
  · rw [if_pos h, h.1, h.2]
  · rw [if_neg h]
theorem ME_back {μ0 μ : MS} {p : Nat} {v : Int32} (h : ME (mp μ0 5 p v) μ) : ME μ0 (mp μ 5 p (μ0.1 5 p)) := by
  have := ME_edge (μ0.1 5 p) h
  rw [mp_same] at this
  exact this
theorem MR_edge {γ : CS} {μ μ1 : MS} {p f l tk stp : Nat} (k : Int32) (h : MR γ μ 0 p f l tk stp) (h0 : ∀ j, 25 ≤ j → j ≤ 31 → μ1.1 0 j = μ.1 0 j) (hr : ∀ a, 3 ≤ a → a ≤ 9 → a ≠ 5 → μ1.1 a = μ.1 a) (h5 : μ1.1 5 p = k) : MR (cp γ 32 4 k) μ1 0 p f l tk stp := by
  obtain ⟨d, t, hh, a1, ⟨b1, b2, b3, b4, b5, b6, b7, b8⟩, ⟨c1, c2, c3, c4, c5, c6, c7, c8⟩, ⟨k1, k2, k3, k4, k5⟩, a5, a6, a7⟩ := h
  have e31 : (cp γ 32 4 k).1 31 = γ.1 31 := cp_ne _ _ _ _ (by decide)
  have e32 : ∀ j, j ≠ 4 → (cp γ 32 4 k).1 32 j = γ.1 32 j := fun j h1 => by rw [cp_1, if_neg (fun h => h1 h.2)]
  refine ⟨d, t, hh, a1, ⟨by rw [e31]; exact b1, by rw [e31]; exact b2, by rw [e31]; exact b3, by rw [e31]; exact b4, by rw [e32 _ (by decide)]; exact b5, by rw [e32 _ (by decide)]; exact b6, by rw [e32 _ (by decide)]; exact b7, by rw [e32 _ (by decide)]; exact b8⟩, ⟨by rw [h0 _ (by decide) (by decide)]; exact c1, by rw [h0 _ (by decide) (by decide)]; exact c2, by rw [h0 _ (by decide) (by decide)]; exact c3, by rw [h0 _ (by decide) (by decide)]; exact c4, by rw [hr 4 (by decide) (by decide) (by decide)]; exact c5, by rw [hr 7 (by decide) (by decide) (by decide)]; exact c6, c7, c8⟩, ⟨by rw [e32 _ (by decide), hr 3 (by decide) (by decide) (by decide)]; exact k1, by rw [h5, cp_1, if_pos ⟨rfl, rfl⟩], by rw [e32 _ (by decide)]; exact k3, by rw [hr 8 (by decide) (by decide) (by decide)]; exact k4, by rw [e32 _ (by decide), hr 9 (by decide) (by decide) (by decide)]; exact k5⟩, by rw [e31, h0 _ (by decide) (by decide), hr 6 (by decide) (by decide) (by decide)]; exact a5, by rw [e31, h0 _ (by decide) (by decide)]; exact a6, ?_⟩
  rcases a7 with a7 | ⟨i, mf, q, hi, _⟩
  · exact Or.inl ⟨a7.1, by rw [h0 _ (by decide) (by decide)]; exact a7.2⟩
  · exact absurd hi (by omega)
theorem LL_5 {γ : CS} {μ : MS} {nl : Nat} (p : Nat) (v : Int32) (h : LL γ μ nl) : LL γ (mp μ 5 p v) nl := by
  obtain ⟨h1, h2, h3, h4⟩ := h
  refine ⟨h1, h2, by rw [mp_ne _ _ _ _ (by decide)]; exact h3, fun i hi => ?_⟩
  obtain ⟨q, a, s, cs, fr, kd, f, t, l1, l2, l3, l4, l5, l6⟩ := h4 i hi
  refine ⟨q, a, s, cs, fr, kd, f, t, l1, l2, LTr_move (v := live μ) (by omega) (fun k _ => ?_) (fun k _ => ?_) l3, l4, ?_, l6⟩
  · show (mp μ 5 p v).1 15 k = μ.1 15 k; rw [mp_ne _ _ _ _ (by decide)]
  · show (mp μ 5 p v).1 14 k = μ.1 14 k; rw [mp_ne _ _ _ _ (by decide)]
  · show (mp μ 5 p v).1 10 i = nI kd ∧ (mp μ 5 p v).1 11 i = nI f ∧ (mp μ 5 p v).1 12 i = nI t
    rw [mp_ne _ _ _ _ (by decide), mp_ne _ _ _ _ (by decide), mp_ne _ _ _ _ (by decide)]; exact l5
theorem edge_both (n : Nat) (hn : 10000 ≤ n) {γ0 γ : CS} {μ0 μ : MS} {np nl ng : Nat} (HB : RBn γ0 5 (live μ0) np nl ng) {p q w d e h t l i : Nat} {v : Int32} (hP : PLr γ0 5 (live μ0) p q w d e h t) (hp : p < 6) (hl : l ≤ 9000) (hC : CG γ0 γ) (hM : ME (mp μ0 5 p v) μ) : ∃ γa γ1 μ1 tk, fc_X2_begin n γ (some q) (nI l) 0 = some (0, γa) ∧ fc_X2_runTo n (cp γa 32 4 (nI i)) 9999 = some (0, γ1) ∧ γ1.1 31 5 = nI tk ∧ fm_lastsOf n (mp μ 5 p (nI i)) (nI p) (nI l) 0 = some (nI tk, μ1) ∧ tk ≤ 10008 ∧ CG γ0 γ1 ∧ ME (mp μ0 5 p (nI i)) μ1 := by
  have hE : EN γ0 μ0 γ μ0 := ⟨hC, ME.rf μ0⟩
  obtain ⟨γa, g1, g2⟩ := begin_C n (EN_HB hE HB) (EN_PL hE hp hP) hl (show 0 < 4 by omega)
  have hM1 := ME_edge (nI i) hM
  have hMR := MR_begin (allI nl) (EN_PL hE hp hP) hp (show 0 < 4 by omega) hl (EN_HB hE HB).2.2.2.2.1.1 g2
  have h12 : μ.1 0 12 = μ0.1 0 12 := by rw [hM.2.2 12 (by omega), mp_ne _ _ _ _ (by decide)]
  have hMR1 := MR_edge (μ1 := mbg (mp μ 5 p (nI i)) p l 0 (allI nl)) (nI i) hMR (fun j h1 h2 => by
    rcases (show j = 25 ∨ j = 26 ∨ j = 27 ∨ j = 28 ∨ j = 29 ∨ j = 30 ∨ j = 31 by omega) with rfl | rfl | rfl | rfl | rfl | rfl | rfl
    · simp [mbg, mp_1]
    · simp [mbg, mp_1]
    · simp [mbg, mp_1]
    · simp [mbg, mp_1]
    · simp [mbg, mp_1]
    · simp [mbg, mp_1, h12]
    · simp [mbg, mp_1]) (fun a h1 h2 h3 => by rw [mbg_row _ _ _ _ _ (by omega), mbg_row _ _ _ _ _ (by omega), mp_ne _ _ _ _ h3, hM.2.1 a (by omega) (by omega) (by omega), mp_ne _ _ _ _ h3]) (by rw [mbg_row _ _ _ _ _ (by omega), mp_1, if_pos ⟨rfl, rfl⟩])
  have hCa : CG γ0 (cp γa 32 4 (nI i)) := CG.tr hC (CG.tr g2.1 (CG_cp (by omega) _ _))
  have hMa : ME (mp μ0 5 p (nI i)) (mbg (mp μ 5 p (nI i)) p l 0 (allI nl)) := ME.tr hM1 (mbg_ME _ _ _ _ _)
  have hJ : JR (cp γa 32 4 (nI i)) (mbg (mp μ 5 p (nI i)) p l 0 (allI nl)) nl p 0 l 0 1 0 := by
    refine ⟨LL_eng hCa.1 hMa (LL_5 p (nI i) (LL_of HB)), MR_bits hMR1 (fun j hj => ?_), by rw [cp_ne _ _ _ _ (by decide), g2.2.2.1]; rfl, by omega, by omega, by omega⟩
    rw [cp_ne _ _ _ _ (by decide), g2.2.2.2.1, show (mbg (mp μ 5 p (nI i)) p l 0 (allI nl)).1 0 28 = allI nl by simp [mbg, mp_1]]
    exact all_bits HB.1.2.1 hj
  obtain ⟨γ1, μ1, tk, en, r1, r2, r3, r4, r5, r6, r7, r8, r9⟩ := last_both n hn (Nat.le_refl 1) (by omega) hJ
  refine ⟨γa, γ1, μ1, tk, g1, r1, r3, ?_, r4, CG.tr hCa r8, ME.tr hMa r9⟩
  unfold fm_lastsOf
  have h21 : (mp μ 5 p (nI i)).1 0 21 = nI nl := by
    rw [mp_ne _ _ _ _ (by decide), hM.2.2 21 (by omega), mp_ne _ _ _ _ (by decide)]; exact HB.2.2.1.2
  exact bd_g (fm_all_eq n HB.1.2.1 h21) (bd_g (begins_M n _ p l 0 _) (bd_g r2 rfl))
theorem m1_le {c : Nat} (h : c < 2 ^ 31) : ¬ nI c ≤ -1 := by
  have e1 : (-1 : Int32).toInt = -1 := by decide
  rw [Int32.le_iff_toInt_le, nI_toInt h]
  omega
theorem fl_loop (n : Nat) (hn : 10000 ≤ n) {γ0 : CS} {μ0 : MS} {np nl ng : Nat} (HB : RBn γ0 5 (live μ0) np nl ng) {p q w d e h t l : Nat} (hP : PLr γ0 5 (live μ0) p q w d e h t) (hp : p < 6) (hl : l ≤ 9000) (x3 : Int32) (hx : x3 = 0) : ∀ m i k γ μ b c, i + m = 4 → m < k → EN γ0 μ0 γ μ → OKE γ0 μ0 (lc_X7_bestFloor_8 n k γ q (nI l) b c (nI i)) (lm_bestFor_69 n k μ (nI p) (nI l) x3 b c (μ0.1 5 p) (nI i)) := by
  have ec : Int32.toNatClampNeg (nI p) = p := nI_clamp (by omega)
  intro m
  induction m with
  | zero =>
    intro i k γ μ b c hi hk hE
    obtain ⟨k, rfl⟩ : ∃ k', k = k' + 1 := ⟨k - 1, by omega⟩
    refine OKE_cm (if_t (nI_le (a := 4) (by omega) (by omega)) rfl) (show lm_bestFor_69 n (k + 1) μ (nI p) (nI l) x3 b c (μ0.1 5 p) (nI i) = some (b, mp μ 5 p (μ0.1 5 p)) from if_t hx (if_t (nI_le (a := 4) (by omega) (by omega)) (ck_g (ib_nI (by omega) (by omega)) (sq_r (x1 := mp μ 5 p (μ0.1 5 p)) (by rw [ec]) rfl)))) (OKE_ret rfl ⟨hE.1, ?_⟩)
    exact ME_back (v := μ0.1 5 p) (by rw [mp_same]; exact hE.2)
  | succ m ih =>
    intro i k γ μ b c hi hk hE
    obtain ⟨k, rfl⟩ : ∃ k', k = k' + 1 := ⟨k - 1, by omega⟩
    obtain ⟨γ1, μ1, tk, en, r1, r2, r3, r4, r5, r6, r7⟩ := ticks_both n hn (EN_HB hE HB) (EN_PL hE hp hP) hp hl (show i < 4 by omega)
    have hE1 := EN.tr hE r7
    refine OKE_cm (show lc_X7_bestFloor_8 n (k + 1) γ q (nI l) b c (nI i) = _ from if_f (nI_ge (b := 4) (by omega) (by omega)) (bd_g r1 rfl)) (show lm_bestFor_69 n (k + 1) μ (nI p) (nI l) x3 b c (μ0.1 5 p) (nI i) = _ from if_t hx (if_f (nI_ge (b := 4) (by omega) (by omega)) (if_f (by rw [hx]; decide) (if_t hx (bd_g r2 rfl))))) ?_
    by_cases c4 : nI tk ≤ c
    · exact OKE_cm (if_t c4 (sq_r (nI_1 i) rfl)) (if_f (ge_nlt c4) (sq_r (nI_1 i) rfl)) (ih (i + 1) k γ1 μ1 b c (by omega) (by omega) hE1)
    · exact OKE_cm (if_f c4 (sq_r (nI_1 i) rfl)) (if_t (nle_gt c4) (sq_r (nI_1 i) rfl)) (ih (i + 1) k γ1 μ1 (nI i) (nI tk) (by omega) (by omega) hE1)
theorem ed_loop (n : Nat) (hn : 10000 ≤ n) {γ0 : CS} {μ0 : MS} {np nl ng : Nat} (HB : RBn γ0 5 (live μ0) np nl ng) {p q w d e h t l : Nat} (hP : PLr γ0 5 (live μ0) p q w d e h t) (hp : p < 6) (hl : l ≤ 9000) (x3 : Int32) (hx : x3 = 1) : ∀ m i k γ μ b c v, i + m = 10 → m < k → CG γ0 γ → ME (mp μ0 5 p v) μ → OKE γ0 μ0 (lc_X7_bestEdge_8 n k γ q (nI l) b c (nI i)) (lm_bestFor_69 n k μ (nI p) (nI l) x3 b c (μ0.1 5 p) (nI i)) := by
  have hx0 : ¬ x3 = 0 := by rw [hx]; decide
  have ec : Int32.toNatClampNeg (nI p) = p := nI_clamp (by omega)
  have hib : ib (nI p) 7 = true := ib_nI (by omega) (by omega)
  intro m
  induction m with
  | zero =>
    intro i k γ μ b c v hi hk hC hM
    obtain ⟨k, rfl⟩ : ∃ k', k = k' + 1 := ⟨k - 1, by omega⟩
    exact OKE_cm (if_t (nI_lt (a := 9) (by omega) (by omega)) rfl) (show lm_bestFor_69 n (k + 1) μ (nI p) (nI l) x3 b c (μ0.1 5 p) (nI i) = some (b, mp μ 5 p (μ0.1 5 p)) from if_f hx0 (if_t (nI_le (a := 10) (by omega) (by omega)) (ck_g hib (sq_r (x1 := mp μ 5 p (μ0.1 5 p)) (by rw [ec]) rfl)))) (OKE_ret rfl ⟨hC, ME_back hM⟩)
  | succ m ih =>
    intro i k γ μ b c v hi hk hC hM
    obtain ⟨k, rfl⟩ : ∃ k', k = k' + 1 := ⟨k - 1, by omega⟩
    obtain ⟨γa, γ1, μ1, tk, r1, r2, r3, r4, r5, r6, r7⟩ := edge_both n hn (i := i) HB hP hp hl hC hM
    refine OKE_cm (show lc_X7_bestEdge_8 n (k + 1) γ q (nI l) b c (nI i) = _ from if_f (nI_nlt (a := 9) (by omega) (by omega)) (bd_g r1 (bd_g (a := 0) (b := cp γa 32 4 (nI i)) rfl (bd_g r2 rfl)))) (show lm_bestFor_69 n (k + 1) μ (nI p) (nI l) x3 b c (μ0.1 5 p) (nI i) = _ from if_f hx0 (if_f (nI_ge (b := 10) (by omega) (by omega)) (if_t hx (ck_g hib (sq_r (x1 := mp μ 5 p (nI i)) (by rw [ec]) (if_f hx0 (bd_g r4 rfl))))))) ?_
    by_cases c4 : nI tk ≤ c
    · exact OKE_cm (if_t (by rw [r3]; exact c4) (sq_r (nI_1 i) rfl)) (if_f (ge_nlt c4) (sq_r (nI_1 i) rfl)) (ih (i + 1) k γ1 μ1 b c (nI i) (by omega) (by omega) r6 r7)
    · exact OKE_cm (if_f (by rw [r3]; exact c4) (sq_r r3 (sq_r (nI_1 i) rfl))) (if_t (nle_gt c4) (sq_r (nI_1 i) rfl)) (ih (i + 1) k γ1 μ1 (nI i) (nI tk) (nI i) (by omega) (by omega) r6 r7)
theorem s_bestFor (n : Nat) (hn : 10000 ≤ n) : st_bestFor n Rl := by
  intro γ μ x1 x2 x3 H
  show OK _ _
  obtain ⟨np, nl, ng, HB⟩ := H.2.2.2.1
  have hnp := HB.1.1
  unfold fc_X7_bestFor fm_bestFor
  rcases plate_both n HB x1 with ⟨e1, e2⟩ | ⟨i, q, w, d, e, h, t, rfl, hi, e1, e2, hP⟩
  · exact OK_cm (bd_g e1 (oc_gn rfl rfl)) (bd_g e2 (if_t rfl rfl)) (OK_1 H)
  refine OK_cm (bd_g e1 (oc_gs rfl rfl)) (bd_g e2 (if_f one_ne rfl)) ?_
  rcases zo_both n γ μ x3 with ⟨g1, g2⟩ | ⟨hx2, g1, g2⟩
  · exact OK_cm (bd_g g1 (if_t rfl rfl)) (bd_g g2 (if_t rfl rfl)) (OK_2 H)
  refine OK_cm (bd_g g1 (if_f one_ne rfl)) (bd_g g2 (if_f one_ne rfl)) ?_
  rcases lean_both n γ μ x2 with ⟨r, hr, g1, g2⟩ | ⟨l, hl, rfl, g1, g2⟩
  · exact OK_cm (bd_g g1 (if_f (ne46 hr) rfl)) (bd_g g2 (if_f (ne46 hr) rfl)) (OK_46 H hr)
  have ec : Int32.toNatClampNeg (nI i) = i := nI_clamp (by omega)
  have hib : ib (nI i) 7 = true := ib_nI (by omega) (by omega)
  refine OK_cm (bd_g g1 (if_t rfl rfl)) (bd_g g2 (if_t rfl (sq_g (sq_g (ck_g hib (sq_r (x1 := μ.1 5 i) (by rw [ec]) (sq_g rfl))))))) ?_
  rcases hx2 with hx | hx
  · obtain ⟨r, γ1, μ1, h1, h2, h3⟩ := fl_loop n hn HB hP (by omega) hl x3 hx 4 0 n γ μ 0 (-1) (by omega) (by omega) (EN.rf γ μ)
    exact OK_cm (if_t hx (bd_g (sq_g (sq_g (sq_g h1))) rfl)) h2 (OK_ret rfl (EN_Rl h3 H))
  · obtain ⟨r, γ1, μ1, h1, h2, h3⟩ := ed_loop n hn HB hP (by omega) hl x3 hx 10 0 n γ μ 0 (-1) (μ.1 5 i) (by omega) (by omega) (CG.rf γ) (by rw [mp_same]; exact ME.rf μ)
    exact OK_cm (if_f (by rw [hx]; decide) (bd_g (sq_g (sq_g (sq_g h1))) rfl)) h2 (OK_ret rfl (EN_Rl h3 H))
/-! trust -/
theorem step_both (n : Nat) (hn : 10000 ≤ n) {γ0 γ : CS} {μ0 μ : MS} {np nl ng : Nat} (HB : RBn γ0 5 (live μ0) np nl ng) {pn fl f0 ln tk en tc q w d e h t stp : Nat} (hpn : pn < np) (hS : SP γ0 μ0 pn fl f0 ln tk en tc q w d e h t) (hs1 : 1 ≤ stp) (hs2 : stp ≤ 10) (hE : EN γ0 μ0 γ μ) : ∃ γ1 μa μ1 T, fc_X7_ticksByStep n γ (nI stp) = some (nI T, γ1) ∧ fm_beginsSpin n μ = some (0, μa) ∧ fm_lastsOn n μa (nI stp) = some (nI T, μ1) ∧ T ≤ 10008 ∧ EN γ0 μ0 γ1 μ1 := by
  obtain ⟨γa, g1, g2, g3, g4⟩ := spin_both n (EN_HB hE HB) hpn (EN_SP hE hS)
  have hJ : JR (cp γa 31 8 (nI stp)) (mbg μ pn fl f0 (allI nl)) nl pn f0 fl 0 stp 0 := ⟨LL_eng (CE_cp (by omega) _ _) (ME.rf _) g4.1, MR_step g4.2.1 stp, by rw [cp_1, if_neg (by omega)]; exact g4.2.2.1, by omega, by omega, by omega⟩
  obtain ⟨γ1, μ1, T, en, r1, r2, r3, r4, r5, r6, r7, r8, r9⟩ := last_both n hn hs1 hs2 hJ
  refine ⟨γ1, _, μ1, T, ?_, g2, r2, r4, EN.tr hE ⟨CG.tr g3 (CG.tr (CG_cp (by omega) _ _) r8), ME.tr (mbg_ME _ _ _ _ _) r9⟩⟩
  unfold fc_X7_ticksByStep
  exact bd_g g1 (sq_g (bd_g r1 (by rw [r3])))
theorem sub_toInt {a b : Nat} (ha : a ≤ 10008) (hb : b ≤ 10008) : (nI a - nI b).toInt = (a : Int) - b := by
  rw [i_sub (by rw [nI_toInt (by omega), nI_toInt (by omega)]; omega) (by rw [nI_toInt (by omega), nI_toInt (by omega)]; omega), nI_toInt (by omega), nI_toInt (by omega)]
theorem abs_toInt {x : Int32} (h1 : -10008 ≤ x.toInt) (h2 : x.toInt ≤ 10008) : (if 0 ≤ x then x else 0 - x).toInt = if 0 ≤ x.toInt then x.toInt else - x.toInt := by
  have e0 : (0 : Int32).toInt = 0 := by decide
  by_cases c : 0 ≤ x
  · have c' := c
    rw [Int32.le_iff_toInt_le, e0] at c'
    rw [if_pos c, if_pos c']
  · have c' := c
    rw [Int32.le_iff_toInt_le, e0] at c'
    rw [if_neg c, if_neg c', i_sub (by omega) (by omega)]
    omega
theorem tr_cmp {a b j : Nat} (ha : a ≤ 10008) (hb : b ≤ 10008) (hj : j ≤ 9999) : (nI j < (if 0 ≤ nI a - nI b then nI a - nI b else 0 - (nI a - nI b))) ↔ (nI j < nI a - nI b ∨ nI a - nI b < -nI j) := by
  have e := sub_toInt ha hb
  have ej := nI_toInt (n := j) (by omega)
  have en : (-nI j).toInt = -(j : Int) := by
    rw [show -nI j = 0 - nI j by simp, i_sub (by rw [ej]; have : (0 : Int32).toInt = 0 := by decide
                                                 omega) (by rw [ej]; have : (0 : Int32).toInt = 0 := by decide
                                                            omega), ej]
    have : (0 : Int32).toInt = 0 := by decide
    omega
  rw [Int32.lt_iff_toInt_lt, abs_toInt (by omega) (by omega), Int32.lt_iff_toInt_lt, Int32.lt_iff_toInt_lt, e, ej, en]
  by_cases c : (0 : Int) ≤ (a : Int) - b
  · rw [if_pos c]; omega
  · rw [if_neg c]; omega
theorem trust_one (n : Nat) (hn : 10000 ≤ n) {γ0 γ : CS} {μ0 μ : MS} {np nl ng : Nat} (HB : RBn γ0 5 (live μ0) np nl ng) {pn fl f0 ln tk en tc q w d e h t stp i j T : Nat} (hpn : pn < np) (hS : SP γ0 μ0 pn fl f0 ln tk en tc q w d e h t) (hs1 : 2 ≤ stp) (hs2 : stp ≤ 10) (hi : i < 3) (hz : zst.getD i 0 = nI stp) (hj : j ≤ 9999) (hT : T ≤ 10008) (hE : EN γ0 μ0 γ μ) (KC : CS → Int32 → Int32 → Int32 → Int32 → Option ((Int32) × CS)) (KM : MS → Int32 → Int32 → Int32 → Option (Int32 × MS)) (s2 : Int32) (hb : ∀ μ1, bm_trust_83 n KM μ1 (nI j) (nI T) (nI stp) = KM μ1 (nI j) (nI T) s2) (hK : ∀ γ1 μ1, EN γ0 μ0 γ1 μ1 → OKE γ0 μ0 (KC γ1 (nI j) (nI T) 3 (nI (i + 1))) (KM μ1 (nI j) (nI T) s2)) : OKE γ0 μ0 (bc_X7_trust_62 n KC γ (nI j) (nI T) 3 (nI i)) (bm_trust_47 n KM μ (nI j) (nI T) (nI stp)) := by
  obtain ⟨γ1, μa, μ1, T1, r1, r2, r3, r4, r5⟩ := step_both n hn HB hpn hS (show 1 ≤ stp by omega) hs2 hE
  have ec : Int32.toNatClampNeg (nI i) = i := nI_clamp (by omega)
  unfold bc_X7_trust_62 bm_trust_47
  refine OKE_cm (if_f (nI_ge (b := 3) (by omega) (by omega)) (ck_g (ib_nI (by omega) (by omega)) (sq_r (x1 := nI stp) (by rw [ec]; exact hz) (bd_g r1 (sq_g rfl))))) (if_f (nI_ge (a := 1) (by omega) (by omega)) (bd_g r2 (bd_g r3 (sq_g rfl)))) ?_
  have key := tr_cmp (a := T1) (b := T) (j := j) r4 hT hj
  by_cases c : nI j < (if 0 ≤ nI T1 - nI T then nI T1 - nI T else 0 - (nI T1 - nI T))
  · refine OKE_cm (if_t c (sq_r (nI_1 i) rfl)) ?_ (hK γ1 μ1 r5)
    rcases key.mp c with c1 | c1
    · exact if_t c1 (hb μ1)
    · by_cases c2 : nI j < nI T1 - nI T
      · exact if_t c2 (hb μ1)
      · exact if_f c2 (if_t c1 (hb μ1))
  · exact OKE_cm (if_f c rfl) (if_f (fun h => c (key.mpr (Or.inl h))) (if_f (fun h => c (key.mpr (Or.inr h))) rfl)) (OKE_ret rfl r5)
theorem s_trust (n : Nat) (hn : 10000 ≤ n) : st_trust n Rl := by
  intro γ μ x1 H
  show OK _ _
  obtain ⟨np, nl, ng, HB⟩ := H.2.2.2.1
  have hnp := HB.1.1
  unfold fc_X7_trust fm_trust
  rcases sp_both HB with ⟨e1, e2⟩ | ⟨e1, e2, e3⟩
  · exact OK_cm (if_t e1 rfl) (if_t e2 rfl) (OK_3 H)
  obtain ⟨pn, fl, f0, ln, tk, en, tc, q, w, d, e, h, t, hpn, hS⟩ := SP_of HB e3
  refine OK_cm (if_f e1 rfl) (if_f e2 rfl) ?_
  by_cases c0 : 0 ≤ x1
  · by_cases c1 : x1 ≤ 9999
    · obtain ⟨j, hj, rfl⟩ := in0 (b := 9999) (by omega) c0 c1
      obtain ⟨γ1, μa, μ1, T, r1, r2, r3, r4, r5⟩ := step_both n hn HB hpn hS (Nat.le_refl 1) (by omega) (EN.rf γ μ)
      refine OK_E H (OKE_cm (if_t c0 (if_t c1 (bd_g r1 (sq_g (sq_g rfl))))) (bd_g (bnd_in n μ c0 c1) (if_t rfl (bd_g r2 (bd_g r3 (sq_g rfl))))) ?_)
      obtain ⟨m, rfl⟩ : ∃ m, n = m + 4 := ⟨n - 4, by omega⟩
      refine trust_one (m + 4) hn (i := 0) (stp := 10) (s2 := 5) HB hpn hS (by omega) (by omega) (by omega) rfl hj r4 r5 (lc_X7_trust_62 (m + 4) (m + 3)) (lm_trust_47 (m + 4) (m + 3)) (fun μ1 => if_t rfl rfl) (fun γ2 μ2 hE2 => ?_)
      refine trust_one (m + 4) hn (i := 1) (stp := 5) (s2 := 2) HB hpn hS (by omega) (by omega) (by omega) rfl hj r4 hE2 (lc_X7_trust_62 (m + 4) (m + 2)) (lm_trust_47 (m + 4) (m + 2)) (fun μ1 => if_f (by decide) (if_t rfl rfl)) (fun γ3 μ3 hE3 => ?_)
      refine trust_one (m + 4) hn (i := 2) (stp := 2) (s2 := 1) HB hpn hS (by omega) (by omega) (by omega) rfl hj r4 hE3 (lc_X7_trust_62 (m + 4) (m + 1)) (lm_trust_47 (m + 4) (m + 1)) (fun μ1 => if_f (by decide) (if_f (by decide) rfl)) (fun γ4 μ4 hE4 => ?_)
      exact OKE_cm (show lc_X7_trust_62 (m + 4) (m + 1) γ4 (nI j) (nI T) 3 (nI 3) = some (1, γ4) from rfl) (show lm_trust_47 (m + 4) (m + 1) μ4 (nI j) (nI T) 1 = some (1, μ4) from rfl) (OKE_ret rfl hE4)
    · exact OK_cm (if_t c0 (if_f c1 rfl)) (bd_g (bnd_hi n μ c0 c1) (if_f (by decide) rfl)) (OK_6 H)
  · exact OK_cm (if_f c0 rfl) (bd_g (bnd_lo n μ c0) (if_f (by decide) rfl)) (OK_4 H)
