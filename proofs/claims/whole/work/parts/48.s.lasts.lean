/-! beginnings from the relation; lasts, takes, longest -/
def allI (nl : Nat) : Int32 := nI (2 ^ nl - 1)
theorem shl_nl {nl : Nat} (h : nl ≤ 8) : ((1 : Int32) <<< (nI nl &&& 31)) = nI (2 ^ nl) := by
  have key : ∀ m, m < 9 → ((1 : Int32) <<< (nI m &&& 31)) = nI (2 ^ m) := by decide +kernel
  exact key nl (by omega)
theorem all_eq {nl : Nat} (h : nl ≤ 8) : ((1 : Int32) <<< (nI nl &&& 31)) - 1 = allI nl := by
  have key : ∀ m, m < 9 → ((1 : Int32) <<< (nI m &&& 31)) - 1 = allI m := by decide +kernel
  exact key nl (by omega)
theorem all_bits {nl i : Nat} (h : nl ≤ 8) (hi : i < nl) : bitI (-1) i = 0 ↔ bitI (allI nl) i = 0 := by
  have key : ∀ m, m < 9 → ∀ j, j < m → (¬ bitI (-1) j = 0 ∧ ¬ bitI (allI m) j = 0) := by decide +kernel
  have := key nl (by omega) i hi
  exact ⟨fun h => absurd h this.1, fun h => absurd h this.2⟩
theorem m1_bits {i : Nat} (hi : i < 8) : ¬ bitI (-1) i = 0 := by
  have key : ∀ j, j < 8 → ¬ bitI (-1) j = 0 := by decide +kernel
  exact key i hi
theorem fm_all_eq (n : Nat) {μ : MS} {nl : Nat} (h : nl ≤ 8) (h21 : μ.1 0 21 = nI nl) : fm_all n μ = some (allI nl, μ) := by
  unfold fm_all
  rw [h21, all_eq h]
theorem LL_of {γ : CS} {μ : MS} {np nl ng : Nat} (HB : RBn γ 5 (live μ) np nl ng) : LL γ μ nl := ⟨HB.1.2.1, HB.2.2.1.1, HB.2.2.1.2, HB.2.2.2.2.2.2.1⟩
/-- class and reference both as the engine left them -/
def EN (γ0 : CS) (μ0 : MS) (γ : CS) (μ : MS) : Prop := CG γ0 γ ∧ ME μ0 μ
theorem EN.rf (γ : CS) (μ : MS) : EN γ μ γ μ := ⟨CG.rf γ, ME.rf μ⟩
theorem EN.tr {γ0 γ1 γ2 : CS} {μ0 μ1 μ2 : MS} (h : EN γ0 μ0 γ1 μ1) (g : EN γ1 μ1 γ2 μ2) : EN γ0 μ0 γ2 μ2 := ⟨CG.tr h.1 g.1, ME.tr h.2 g.2⟩
theorem EN_Rl {γ0 γ : CS} {μ0 μ : MS} (h : EN γ0 μ0 γ μ) (H : Rl γ0 μ0) : Rl γ μ := Rl_eng h.1.1 h.2 (h.1.2 H.2.1) H
theorem EN_HB {γ0 γ : CS} {μ0 μ : MS} {np nl ng : Nat} (h : EN γ0 μ0 γ μ) (H : RBn γ0 5 (live μ0) np nl ng) : RBn γ 5 (live μ) np nl ng := RBn_move (CV_CE (by omega) h.1.1) (VV_ME h.2) H
theorem EN_PL {γ0 γ : CS} {μ0 μ : MS} {p q w d e h t : Nat} (hE : EN γ0 μ0 γ μ) (hp : p < 6) (H : PLr γ0 5 (live μ0) p q w d e h t) : PLr γ 5 (live μ) p q w d e h t := PLr_move (PO_CE hE.1.1) (by rw [hE.1.1.2.1 _ (by decide)]) (fun a h1 h2 => (VV_ME hE.2).1 a p (by unfold okV; omega)) H
theorem EN_SP {γ0 γ : CS} {μ0 μ : MS} {pn fl f0 ln tk en tc q w d e h t : Nat} (hE : EN γ0 μ0 γ μ) (H : SP γ0 μ0 pn fl f0 ln tk en tc q w d e h t) : SP γ μ pn fl f0 ln tk en tc q w d e h t := by
  obtain ⟨r0, r1, r2, r3, r4, r5, r6, r7, r8, r9, r10⟩ := H
  have eC : ∀ a, a < 31 → γ.1 a = γ0.1 a := fun a ha => hE.1.1.2.2.2 a (by omega) (by omega) (by omega) (by omega)
  have eM : ∀ k, 38 ≤ k → μ.1 0 k = μ0.1 0 k := fun k hk => hE.2.2.2 k (by omega)
  refine ⟨r0, EN_PL hE r0.1 r1, ?_⟩
  rw [eC 12 (by omega), eC 14 (by omega), eC 15 (by omega), eM 39 (by omega), eM 44 (by omega), eM 41 (by omega), eM 40 (by omega), eM 42 (by omega), eM 43 (by omega), eM 45 (by omega), hE.2.2.1 19 (by omega) (by omega) (by omega), hE.2.2.1 20 (by omega) (by omega) (by omega)]
  exact ⟨r2, r3, r4, r5, r6, r7, r8, r9, r10⟩
theorem begin_both (n : Nat) {γ : CS} {μ : MS} {np nl ng : Nat} (HB : RBn γ 5 (live μ) np nl ng) {p q w d e h t l f : Nat} (hP : PLr γ 5 (live μ) p q w d e h t) (hp : p < 6) (hl : l ≤ 9000) (hf : f < 4) : ∃ γ1, fc_X2_begin n γ (some q) (nI l) (nI f) = some (0, γ1) ∧ BG γ γ1 μ f w d e h t l ∧ ∀ set : Int32, (∀ i, i < nl → (bitI (-1) i = 0 ↔ bitI set i = 0)) → JR γ1 (mbg μ p l f set) nl p f l 0 1 0 := by
  obtain ⟨γ1, g1, g2⟩ := begin_C n HB hP hl hf
  refine ⟨γ1, g1, g2, fun set hb => ⟨LL_eng g2.1.1 (mbg_ME μ p l f set) (LL_of HB), MR_bits (MR_begin set hP hp hf hl HB.2.2.2.2.1.1 g2) (fun i hi => ?_), by rw [g2.2.2.1]; rfl, by omega, by omega, by omega⟩⟩
  rw [g2.2.2.2.1, show (mbg μ p l f set).1 0 28 = set by simp [mbg, mp_1]]
  exact hb i hi
theorem again_both (n : Nat) {γ : CS} {μ : MS} {np nl ng : Nat} (HB : RBn γ 5 (live μ) np nl ng) {pn fl f0 ln tk en tc q w d e h t : Nat} (hpn : pn < np) (hS : SP γ μ pn fl f0 ln tk en tc q w d e h t) (x set : Int32) (hb : ∀ i, i < nl → (bitI x i = 0 ↔ bitI set i = 0)) : ∃ γ1, fc_X7_beginAgain n γ x = some (0, γ1) ∧ fm_begins n μ (μ.1 0 39) (μ.1 0 44) (μ.1 0 41) set = some (0, mbg μ pn fl f0 set) ∧ CG γ γ1 ∧ JR γ1 (mbg μ pn fl f0 set) nl pn f0 fl 0 1 0 := by
  obtain ⟨r0, r1, r2, r3, r4, r⟩ := hS
  obtain ⟨γ1, g1, g2⟩ := begin_C n HB r1 r0.2.1 r0.2.2.1
  have hpl : fc_X0_plateAt n γ (nI pn) = some (some q, γ) := by
    have hnp := HB.1.1
    refine if_f (nI_pos (by omega)) (if_f (by rw [show γ.1 5 8 = nI np from HB.2.1.1]; exact nI_ge hpn (by omega)) (if_f (nI_ge (b := 6) (by omega) (by omega)) (ck_g (ib_nI (by omega) (by omega)) (sq_r (x1 := some q) (by rw [nI_clamp (by omega)]; exact r1.1) rfl))))
  refine ⟨cp γ1 31 7 x, ?_, by rw [r2.2, r3.2, r4.2]; exact begins_M n μ pn fl f0 set, CG.tr g2.1 (CG_cp (by omega) _ _), LL_eng (CE.tr g2.1.1 (CE_cp (by omega) _ _)) (mbg_ME μ pn fl f0 set) (LL_of HB), MR_bits (MR_cp7 (MR_begin set r1 r0.1 r0.2.2.1 r0.2.1 HB.2.2.2.2.1.1 g2) x) (fun i hi => ?_), by rw [cp_1, if_neg (by omega), g2.2.2.1]; rfl, by omega, by omega, by omega⟩
  · unfold fc_X7_beginAgain
    refine bd_g (by rw [r2.1]; exact hpl) (bd_g (a := 0) (b := γ1) ?_ (sq_g rfl))
    rw [r3.1, r4.1]
    exact g1
  · rw [cp_1, if_pos ⟨rfl, rfl⟩, show (mbg μ pn fl f0 set).1 0 28 = set by simp [mbg, mp_1]]
    exact hb i hi
theorem spin_both (n : Nat) {γ : CS} {μ : MS} {np nl ng : Nat} (HB : RBn γ 5 (live μ) np nl ng) {pn fl f0 ln tk en tc q w d e h t : Nat} (hpn : pn < np) (hS : SP γ μ pn fl f0 ln tk en tc q w d e h t) : ∃ γ1, fc_X7_beginAgain n γ (-1) = some (0, γ1) ∧ fm_beginsSpin n μ = some (0, mbg μ pn fl f0 (allI nl)) ∧ CG γ γ1 ∧ JR γ1 (mbg μ pn fl f0 (allI nl)) nl pn f0 fl 0 1 0 := by
  obtain ⟨γ1, g1, g2, g3, g4⟩ := again_both n HB hpn hS (-1) (allI nl) (fun i hi => all_bits HB.1.2.1 hi)
  refine ⟨γ1, g1, ?_, g3, g4⟩
  unfold fm_beginsSpin
  exact bd_g (fm_all_eq n HB.1.2.1 HB.2.2.1.2) (bd_g g2 rfl)
theorem ticks_both (n : Nat) (hn : 10000 ≤ n) {γ : CS} {μ : MS} {np nl ng : Nat} (HB : RBn γ 5 (live μ) np nl ng) {p q w d e h t l f : Nat} (hP : PLr γ 5 (live μ) p q w d e h t) (hp : p < 6) (hl : l ≤ 9000) (hf : f < 4) : ∃ γ1 μ1 tk1 en1, fc_X7_ticksOf n γ q (nI l) (nI f) = some (nI tk1, γ1) ∧ fm_lastsOf n μ (nI p) (nI l) (nI f) = some (nI tk1, μ1) ∧ tk1 ≤ 10008 ∧ γ1.1 31 6 = nI en1 ∧ μ1.1 0 35 = nI en1 ∧ en1 ≤ 4 ∧ EN γ μ γ1 μ1 := by
  obtain ⟨γ1, g1, g2, g3⟩ := begin_both n HB hP hp hl hf
  have hJ := g3 (allI nl) (fun i hi => all_bits HB.1.2.1 hi)
  obtain ⟨γ2, μ2, tk, en, r1, r2, r3, r4, r5, r6, r7, r8, r9⟩ := last_both n hn (Nat.le_refl 1) (by omega) hJ
  refine ⟨γ2, μ2, tk, en, ?_, ?_, r4, r5, r6, r7, CG.tr g2.1 r8, ME.tr (mbg_ME _ _ _ _ _) r9⟩
  · unfold fc_X7_ticksOf
    exact bd_g g1 (bd_g r1 (by rw [r3]))
  · unfold fm_lastsOf
    exact bd_g (fm_all_eq n HB.1.2.1 HB.2.2.1.2) (bd_g (begins_M n μ p l f _) (bd_g r2 rfl))
theorem s_lasts (n : Nat) (hn : 10000 ≤ n) : st_lasts n Rl := by
  intro γ μ x1 x2 x3 x4 H
  show OK _ _
  obtain ⟨np, nl, ng, HB⟩ := H.2.2.2.1
  have hnp := HB.1.1
  unfold fc_X7_lasts fm_lasts
  rcases plate_both n HB x1 with ⟨e1, e2⟩ | ⟨i, q, w, d, e, h, t, rfl, hi, e1, e2, hP⟩
  · exact OK_cm (bd_g e1 (oc_gn rfl rfl)) (bd_g e2 (if_t rfl rfl)) (OK_1 H)
  refine OK_cm (bd_g e1 (oc_gs rfl rfl)) (bd_g e2 (if_f one_ne rfl)) ?_
  rcases floor_both n γ μ x3 with ⟨e1, e2⟩ | ⟨f, hf, rfl, e1, e2⟩
  · exact OK_cm (bd_g e1 (if_t rfl rfl)) (bd_g e2 (if_t rfl rfl)) (OK_1 H)
  refine OK_cm (bd_g e1 (if_f one_ne rfl)) (bd_g e2 (if_f one_ne rfl)) ?_
  rcases zo_both n γ μ x4 with ⟨g1, g2⟩ | ⟨hx2, g1, g2⟩
  · exact OK_cm (bd_g g1 (if_t rfl rfl)) (bd_g g2 (if_t rfl rfl)) (OK_2 H)
  refine OK_cm (bd_g g1 (if_f one_ne rfl)) (bd_g g2 (if_f one_ne rfl)) ?_
  rcases lean_both n γ μ x2 with ⟨r, hr, g1, g2⟩ | ⟨l, hl, rfl, g1, g2⟩
  · exact OK_cm (bd_g g1 (if_f (ne46 hr) rfl)) (bd_g g2 (if_f (ne46 hr) rfl)) (OK_46 H hr)
  obtain ⟨γ1, μ1, tk, en, r1, r2, r3, r4, r5, r6, r7⟩ := ticks_both n hn HB hP (by omega) hl hf
  refine OK_cm (bd_g g1 (if_t rfl (bd_g r1 rfl))) (bd_g g2 (if_t rfl (bd_g r2 rfl))) ?_
  by_cases c : x4 = 0
  · exact OK_cm (if_t c rfl) (if_t c rfl) (OK_ret rfl (EN_Rl r7 H))
  · exact OK_cm (if_f c rfl) (if_f c rfl) (OK_ret (r4.trans r5.symm) (EN_Rl r7 H))
theorem bnds (n : Nat) (μ : MS) (x a y b : Int32) : fm_bounds n μ x a y b = if x < 0 then some (-4, μ) else if 0 ≤ y then (if a < x then some (-6, μ) else if y ≤ b then some (0, μ) else some (-6, μ)) else some (-4, μ) := rfl
theorem s_takes (n : Nat) (hn : 10000 ≤ n) : st_takes n Rl := by
  intro γ μ x1 x2 x3 x4 x5 H
  show OK _ _
  obtain ⟨np, nl, ng, HB⟩ := H.2.2.2.1
  have hnp := HB.1.1
  have hnl := HB.1.2.1
  unfold fc_X7_takes fm_takes
  rcases loss_both n HB x1 with ⟨e1, e2⟩ | ⟨i, q, a, s, cs, fr, kd, ff, tt, rfl, hi, e1, e2, hL⟩
  · refine OK_cm (bd_g e1 (oc_gn rfl rfl)) (bd_g e2 (if_t rfl rfl)) ?_
    rcases plate_both n HB x2 with ⟨e1, e2⟩ | ⟨i, q, w, d, e, h, t, rfl, hi, e1, e2, hP⟩
    · exact OK_cm (bd_g e1 (oc_gn rfl rfl)) rfl (OK_1 H)
    · exact OK_cm (bd_g e1 (oc_gs rfl rfl)) rfl (OK_1 H)
  refine OK_cm (bd_g e1 (oc_gs rfl rfl)) (bd_g e2 (if_f one_ne rfl)) ?_
  rcases plate_both n HB x2 with ⟨e1, e2⟩ | ⟨p, qp, w, d, e, h, t, rfl, hp, e1, e2, hP⟩
  · exact OK_cm (bd_g e1 (oc_gn rfl rfl)) (bd_g e2 (if_t rfl rfl)) (OK_1 H)
  refine OK_cm (bd_g e1 (oc_gs rfl rfl)) (bd_g e2 (if_f one_ne rfl)) ?_
  rcases floor_both n γ μ x4 with ⟨e1, e2⟩ | ⟨f, hf, rfl, e1, e2⟩
  · exact OK_cm (bd_g e1 (if_t rfl rfl)) (bd_g e2 (if_t rfl rfl)) (OK_1 H)
  refine OK_cm (bd_g e1 (if_f one_ne rfl)) (bd_g e2 (if_f one_ne rfl)) ?_
  rw [bnds]
  by_cases c0 : x3 < 0
  · exact OK_cm (if_t c0 rfl) (bd_g (if_t c0 rfl) (if_f (by decide) rfl)) (OK_4 H)
  refine OK_cm (if_f c0 rfl) rfl ?_
  by_cases c1 : ¬ 0 ≤ x5
  · exact OK_cm (if_f c1 rfl) (bd_g (if_f c0 (if_f c1 rfl)) (if_f (by decide) rfl)) (OK_4 H)
  have c1 := Decidable.not_not.mp c1
  refine OK_cm (if_t c1 rfl) rfl ?_
  by_cases c2 : 9000 < x3
  · exact OK_cm (if_t c2 rfl) (bd_g (if_f c0 (if_t c1 (if_t c2 rfl))) (if_f (by decide) rfl)) (OK_6 H)
  refine OK_cm (if_f c2 rfl) rfl ?_
  by_cases c3 : ¬ x5 ≤ 9999
  · exact OK_cm (if_f c3 rfl) (bd_g (if_f c0 (if_t c1 (if_f c2 (if_f c3 rfl)))) (if_f (by decide) rfl)) (OK_6 H)
  have c3 := Decidable.not_not.mp c3
  obtain ⟨l, hl, rfl⟩ := in0 (b := 9000) (by omega) (nlt_ge c0) (nlt_ge c2)
  obtain ⟨tk, htk, rfl⟩ := in0 (b := 9999) (by omega) c1 c3
  obtain ⟨γ1, g1, g2, -⟩ := begin_both n HB hP (by omega) hl hf
  have hM := MR_tick (MR_begin 0 hP (by omega) hf hl HB.2.2.2.2.1.1 g2) tk
  have hE : EN γ μ (cp γ1 31 5 (nI tk)) (mp (mbg μ p l f 0) 0 29 (nI tk)) := ⟨CG.tr g2.1 (CG_cp (by omega) _ _), ME.tr (mbg_ME _ _ _ _ _) (ME_mp0 (by omega) _)⟩
  obtain ⟨d1, t1, hh, ⟨k1, k2, k3, k4, k5, k6⟩, hMD, hIN, ⟨f2, f4, f6, g6, f7⟩, ⟨hair, hring⟩, -, -⟩ := hM
  obtain ⟨m3, m4, m5, m8, q0, q1, q3, q5⟩ := id hMD
  obtain ⟨i25, i26, i27, i29, gD, gT, -, -⟩ := id hIN
  have hLE : LL (cp γ1 31 5 (nI tk)) (mp (mbg μ p l f 0) 0 29 (nI tk)) nl := LL_eng hE.1.1 hE.2 (LL_of HB)
  have hL2 := LSr_move (by omega) (PO_CE hE.1.1) (show (cp γ1 31 5 (nI tk)).2.2.1 (5 + 2) i = γ.2.2.1 (5 + 2) i by rw [hE.1.1.2.1 _ (by decide)]) (fun a k h _ => (VV_ME hE.2).1 a k h) hL
  obtain ⟨l1, l2, l3, ⟨l41, l42, l43⟩, ⟨l51, l52, l53⟩, l6⟩ := hL2
  obtain ⟨fC, hC⟩ := takenBy_eq n (cp γ1 31 5 (nI tk)) (by omega) l2
  obtain ⟨gM, hMk⟩ := take_at n (E18.rf (mp (mbg μ p l f 0) 0 29 (nI tk))) ((mp (mbg μ p l f 0) 0 29 (nI tk)).1 10 i) ((mp (mbg μ p l f 0) 0 29 (nI tk)).1 11 i) ((mp (mbg μ p l f 0) 0 29 (nI tk)).1 12 i) (by omega) (by omega) hIN hl k4 k5 l2.2.2.2.2.2.2.2.2.1 l2.2.2.2.2.2.2.2.2.2.1 l3
  have ec : Int32.toNatClampNeg (nI i) = i := nI_clamp (by omega)
  have hib : ib (nI i) 9 = true := ib_nI (by omega) (by omega)
  refine OK_cm (if_t c3 (bd_g g1 (sq_g (bd_g hC rfl)))) (bd_g (if_f c0 (if_t c1 (if_f c2 (if_t c3 rfl)))) (if_t rfl (bd_g (begins_M n μ p l f 0) (sq_g (ck_g hib (sq_g (ck_g hib (sq_g (ck_g hib (sq_g (bd_g (by rw [ec]; exact hMk) rfl)))))))))) ) (OK_ret ?_ (EN_Rl (EN.tr hE ⟨CG_2 (CE_st l2.2.2.2.2.2.1 l2.2.2.2.2.2.2.2.1 _) rfl, ME_st _ _⟩) H))
  have hfl := fields_eq q0 q1 f2 q3 gD f4 q5 gT f6 g6 f7
  have r51 : (mp (mbg μ p l f 0) 0 29 (nI tk)).1 10 i = nI kd := l51
  have r52 : (mp (mbg μ p l f 0) 0 29 (nI tk)).1 11 i = nI ff := l52
  have r53 : (mp (mbg μ p l f 0) 0 29 (nI tk)).1 12 i = nI tt := l53
  unfold tvM
  rw [l41, l42, l43, r51, r52, r53, hair, hring, m4, m3, i26, f4, f6, g6, m5, i29, lw_congr hfl]
