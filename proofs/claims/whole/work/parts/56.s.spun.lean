section
/-! THE PLATE that spins: spin -/
theorem md10 {a : Nat} (h : a < 2 ^ 31) : nI a - nI a / 10 * 10 = nI (a % 10) := by
  have e1 : nI a / 10 = nI (a / 10) := nI_div (b := 10) h (by omega)
  have e2 : nI (a / 10) * 10 = nI (a / 10 * 10) := nI_mul (b := 10) (by omega) (by omega) (by omega)
  rw [e1, e2, nI_sub (by omega) h]
  congr 1
  omega
theorem PO_22 {γ γ1 : CS} (h22 : γ1.2.2 = γ.2.2) (hI : ∀ a, 34 ≤ a → γ1.1 a = γ.1 a) : PO γ γ1 := fun q k hq => ⟨by unfold pk at *; rw [h22]; exact hq, by rw [h22], by rw [h22], fun _ => hI q (pk_s hq).1⟩
theorem RB_spun {γ γ1 : CS} {μ μ1 : MS} {np nl ng : Nat} (HB : RBn γ 5 (live μ) np nl ng) (h22 : γ1.2.2 = γ.2.2) (hI : ∀ a, (a < 12 ∨ 15 < a) → γ1.1 a = γ.1 a) (hM : ∀ a, a ≠ 0 → a ≠ 13 → a ≠ 17 → a ≠ 18 → a ≠ 19 → a ≠ 20 → μ1.1 a = μ.1 a) (hS : ∀ k, (k < 25 ∨ 45 < k) → μ1.1 0 k = μ.1 0 k) (hsp : SPr γ1 5 (live μ1) np nl) : RBn γ1 5 (live μ1) np nl ng := by
  refine RB_in HB (PO_22 h22 (fun a ha => hI a (by omega))) (fun _ _ => by rw [h22]) (fun _ _ => by rw [h22]) (fun a k h h2 => ?_) (by rw [hI 5 (by omega)]) (by rw [hI 5 (by omega)]) (hS _ (by omega)) (hS _ (by omega)) HB.1.2.2 ⟨by rw [hI 5 (by omega)]; exact HB.2.2.2.1.1, (hS 52 (by omega)).trans HB.2.2.2.1.2⟩ (by rw [hI 5 (by omega), show (live μ1).2.1 12 = μ.1 0 12 from hS 12 (by omega)]; exact HB.2.2.2.2.1) (FLs_same HB (hI _ (by omega)) (hI _ (by omega)) (hM _ (by omega) (by omega) (by omega) (by omega) (by omega) (by omega)) (hM _ (by omega) (by omega) (by omega) (by omega) (by omega) (by omega))) (LGs_same HB (hI _ (by omega)) (hI _ (by omega)) (hM _ (by omega) (by omega) (by omega) (by omega) (by omega) (by omega)) (hM _ (by omega) (by omega) (by omega) (by omega) (by omega) (by omega))) hsp (ROr_same HB (hI _ (by omega)) (hI _ (by omega)) (hM _ (by omega) (by omega) (by omega) (by omega) (by omega) (by omega)) (hS _ (by omega)) (hS _ (by omega)))
  show μ1.1 a k = μ.1 a k
  rw [hM a (by unfold okV at h; omega) (by omega) (by omega) (by omega) (by omega) (by omega)]
theorem Rl_spun {γ γ1 : CS} {μ μ1 : MS} {np nl ng : Nat} (H : Rl γ μ) (HB : RBn γ1 5 (live μ1) np nl ng) (h22 : γ1.2.2 = γ.2.2) (hI : ∀ a, (a < 12 ∨ 15 < a) → γ1.1 a = γ.1 a) (hJ : γ1.2.1 25 = γ.2.1 25) (hM : ∀ a, a ≠ 0 → a ≠ 13 → a ≠ 17 → a ≠ 18 → a ≠ 19 → a ≠ 20 → μ1.1 a = μ.1 a) (hS : ∀ k, (k < 25 ∨ 45 < k) → μ1.1 0 k = μ.1 0 k) (h57 : μ1.2 57 = μ.2 57) : Rl γ1 μ1 :=
  Rl_live H h22 (fun a ha => hI a (by omega)) (PO_22 h22 (fun a ha => hI a (by omega))) hJ (hM _ (by omega) (by omega) (by omega) (by omega) (by omega) (by omega)) (hM _ (by omega) (by omega) (by omega) (by omega) (by omega) (by omega)) (hM _ (by omega) (by omega) (by omega) (by omega) (by omega) (by omega)) (hS _ (by omega)) (hS _ (by omega)) h57 ⟨np, nl, ng, HB⟩
theorem SPr_mk {γ : CS} {μ : MS} {np nl pn fl f0 ln tk en tc q w d e h t : Nat} (hpn : pn < np) (h0 : γ.1 12 0 = 1) (h38 : μ.1 0 38 = 1) (hr : γ.2.1 12 = μ.2 46) (ht1 : ∀ i, i < nl → γ.1 13 i = μ.1 13 i) (ht2 : ∀ i, nl ≤ i → i < 8 → γ.1 13 i = 0) (hS : SP γ μ pn fl f0 ln tk en tc q w d e h t) : SPr γ 5 (live μ) np nl := ⟨h0.trans h38.symm, Or.inr h0, hr, ht1, ht2, fun _ => ⟨pn, fl, f0, ln, tk, en, tc, q, w, d, e, h, t, ⟨hpn, hS.1.2⟩, hS.2⟩⟩
/-! a tenth is kept -/
def kC (γ : CS) (tc : Nat) : CS := if tc < 100 then cp (cp (cp γ 14 tc (γ.1 12 4)) 15 tc (γ.1 12 5)) 12 9 (nI (tc + 1)) else γ
def kM (μ : MS) (tc : Nat) (tone : Int32) : MS := if tc < 100 then mp (mp (mp μ 19 tc (μ.1 0 40)) 20 tc tone) 0 45 (nI (tc + 1)) else μ
def kT (tc : Nat) : Nat := if tc < 100 then tc + 1 else tc
theorem kC_2 (γ : CS) (tc : Nat) : (kC γ tc).2 = γ.2 := by
  unfold kC
  by_cases c : tc < 100
  · rw [if_pos c]; rfl
  · rw [if_neg c]
theorem kC_row (γ : CS) (tc : Nat) {a : Nat} (h1 : a ≠ 12) (h2 : a ≠ 14) (h3 : a ≠ 15) : (kC γ tc).1 a = γ.1 a := by
  unfold kC
  by_cases c : tc < 100
  · rw [if_pos c, cp_ne _ _ _ _ h1, cp_ne _ _ _ _ h3, cp_ne _ _ _ _ h2]
  · rw [if_neg c]
theorem kC_12 (γ : CS) (tc : Nat) {k : Nat} (h : k ≠ 9) : (kC γ tc).1 12 k = γ.1 12 k := by
  unfold kC
  by_cases c : tc < 100
  · rw [if_pos c, cp_1, if_neg (by omega), cp_ne _ _ _ _ (by omega), cp_ne _ _ _ _ (by omega)]
  · rw [if_neg c]
theorem kM_2 (μ : MS) (tc : Nat) (x : Int32) : (kM μ tc x).2 = μ.2 := by
  unfold kM
  by_cases c : tc < 100
  · rw [if_pos c]; rfl
  · rw [if_neg c]
theorem kM_row (μ : MS) (tc : Nat) (x : Int32) {a : Nat} (h1 : a ≠ 0) (h2 : a ≠ 19) (h3 : a ≠ 20) : (kM μ tc x).1 a = μ.1 a := by
  unfold kM
  by_cases c : tc < 100
  · rw [if_pos c, mp_ne _ _ _ _ h1, mp_ne _ _ _ _ h3, mp_ne _ _ _ _ h2]
  · rw [if_neg c]
theorem kM_0 (μ : MS) (tc : Nat) (x : Int32) {k : Nat} (h : k ≠ 45) : (kM μ tc x).1 0 k = μ.1 0 k := by
  unfold kM
  by_cases c : tc < 100
  · rw [if_pos c, mp_1, if_neg (by omega), mp_ne _ _ _ _ (by omega), mp_ne _ _ _ _ (by omega)]
  · rw [if_neg c]
theorem kT_le {tc : Nat} (h : tc ≤ 100) : kT tc ≤ 100 := by unfold kT; by_cases c : tc < 100 <;> simp [c] <;> omega
theorem kC_9 {γ : CS} {tc : Nat} (h : γ.1 12 9 = nI tc) : (kC γ tc).1 12 9 = nI (kT tc) := by
  unfold kC kT
  by_cases c : tc < 100
  · rw [if_pos c, if_pos c, cp_1, if_pos ⟨rfl, rfl⟩]
  · rw [if_neg c, if_neg c]; exact h
theorem kM_45 {μ : MS} {tc : Nat} (x : Int32) (h : μ.1 0 45 = nI tc) : (kM μ tc x).1 0 45 = nI (kT tc) := by
  unfold kM kT
  by_cases c : tc < 100
  · rw [if_pos c, if_pos c, mp_1, if_pos ⟨rfl, rfl⟩]
  · rw [if_neg c, if_neg c]; exact h
theorem k_same {γ : CS} {μ : MS} {tc : Nat} (h4 : γ.1 12 4 = μ.1 0 40) (h : ∀ i, i < tc → γ.1 14 i = μ.1 19 i ∧ γ.1 15 i = μ.1 20 i) : ∀ i, i < kT tc → (kC γ tc).1 14 i = (kM μ tc (γ.1 12 5)).1 19 i ∧ (kC γ tc).1 15 i = (kM μ tc (γ.1 12 5)).1 20 i := by
  unfold kC kM kT
  by_cases c : tc < 100
  · rw [if_pos c, if_pos c, if_pos c]
    intro i hi
    simp only [cp_1, mp_1]
    by_cases e : i = tc
    · subst e; simp [h4]
    · obtain ⟨u1, u2⟩ := h i (by omega)
      simp [e, u1, u2]
  · rw [if_neg c, if_neg c, if_neg c]
    exact h
theorem keep_C (n : Nat) {γ : CS} {tc : Nat} (hc : tc ≤ 100) (h9 : γ.1 12 9 = nI tc) : fc_X5_keepTenth n γ = some (0, kC γ tc) := by
  unfold fc_X5_keepTenth kC
  by_cases c : tc < 100
  · rw [if_pos c]
    have hib : ib (nI tc) 100 = true := ib_nI c (by omega)
    have ec : Int32.toNatClampNeg (nI tc) = tc := nI_clamp (by omega)
    have e3 : (cp γ 14 tc (γ.1 12 4)).1 12 = γ.1 12 := cp_ne _ _ _ _ (by decide)
    have e4 : (cp (cp γ 14 tc (γ.1 12 4)) 15 tc (γ.1 12 5)).1 12 = γ.1 12 := by rw [cp_ne _ _ _ _ (by decide), e3]
    exact if_f (by rw [h9]; exact nI_pos (by omega)) (if_f (by rw [h9]; exact nI_ge (b := 100) c (by omega)) (ck_g (by rw [h9]; exact hib) (sq_r (x1 := cp γ 14 tc (γ.1 12 4)) (by rw [h9, ec]) (ck_g (by rw [e3, h9]; exact hib) (sq_r (x1 := cp (cp γ 14 tc (γ.1 12 4)) 15 tc (γ.1 12 5)) (by rw [e3, h9, ec]) (sq_r (x1 := cp (cp (cp γ 14 tc (γ.1 12 4)) 15 tc (γ.1 12 5)) 12 9 (nI (tc + 1))) (by rw [e4, h9, nI_1]) rfl))))))
  · rw [if_neg c]
    exact if_f (by rw [h9]; exact nI_pos (by omega)) (if_t (by rw [h9]; exact nI_le (a := 100) (by omega) (by omega)) rfl)
theorem keep_M (n : Nat) {μ : MS} {tk tc pn ln d t : Nat} (htk : tk < 2 ^ 31) (h42 : μ.1 0 42 = nI tk) (hc : tc ≤ 100) (h45 : μ.1 0 45 = nI tc) (hp : pn < 6) (h39 : μ.1 0 39 = nI pn) (hl : ln ≤ 9000) (h40 : μ.1 0 40 = nI ln) (hd : d ≤ 99) (ht : t ≤ 9) (hD : μ.1 4 pn = nI d) (hT : μ.1 7 pn = nI t) : fm_keepsTenth n μ = some (0, if tk % 10 = 0 then kM μ tc (nI (TN ln d t)) else μ) := by
  unfold fm_keepsTenth
  by_cases c10 : tk % 10 = 0
  · rw [if_pos c10]
    refine if_t (by rw [h42, md10 htk, c10]; rfl) ?_
    unfold kM
    by_cases c : tc < 100
    · rw [if_pos c]
      have hib : ib (nI tc) 100 = true := ib_nI c (by omega)
      have ec : Int32.toNatClampNeg (nI tc) = tc := nI_clamp (by omega)
      have e3 : (mp μ 19 tc (μ.1 0 40)).1 0 = μ.1 0 := mp_ne _ _ _ _ (by decide)
      have e4 : (mp (mp μ 19 tc (μ.1 0 40)) 20 tc (nI (TN ln d t))).1 0 = μ.1 0 := by rw [mp_ne _ _ _ _ (by decide), e3]
      have et : fm_toneOf n (mp μ 19 tc (μ.1 0 40)) ((mp μ 19 tc (μ.1 0 40)).1 0 39) ((mp μ 19 tc (μ.1 0 40)).1 0 40) = some (nI (TN ln d t), mp μ 19 tc (μ.1 0 40)) := by
        rw [e3, h39, h40]
        exact mtone n _ (by omega) hl hd ht (by rw [mp_ne _ _ _ _ (by decide)]; exact hD) (by rw [mp_ne _ _ _ _ (by decide)]; exact hT)
      refine if_f (by rw [h45]; exact fun h => absurd ((nI_eq (b := 100) (by omega) (by omega)).mp h) (by omega)) (ck_g (by rw [h45]; exact hib) (sq_r (x1 := mp μ 19 tc (μ.1 0 40)) (by rw [h45, ec]) (bd_g et (ck_g (by rw [e3, h45]; exact hib) (sq_r (x1 := mp (mp μ 19 tc (μ.1 0 40)) 20 tc (nI (TN ln d t))) (by rw [e3, h45, ec]) (sq_r (x1 := mp (mp (mp μ 19 tc (μ.1 0 40)) 20 tc (nI (TN ln d t))) 0 45 (nI (tc + 1))) (by rw [e4, h45, nI_1]) rfl))))))
    · rw [if_neg c]
      have : tc = 100 := by omega
      subst this
      exact if_t h45 rfl
  · rw [if_neg c10]
    exact if_f (by rw [h42, md10 htk]; exact nI_ne0 (by omega) (by omega)) rfl
theorem fill_loop (n : Nat) : ∀ (m i k : Nat) (γ : CS), i + m = 8 → m < k → ∃ γ1, lc_J7_fill_53178_5 n k γ 0 (nI i) 8 = some (0, γ1) ∧ γ1.2 = γ.2 ∧ (∀ a, a ≠ 13 → γ1.1 a = γ.1 a) ∧ (∀ j, i ≤ j → j < 8 → γ1.1 13 j = 0) ∧ (∀ j, j < i → γ1.1 13 j = γ.1 13 j) := by
  intro m
  induction m with
  | zero =>
    intro i k γ hi hk
    obtain ⟨k, rfl⟩ : ∃ k', k = k' + 1 := ⟨k - 1, by omega⟩
    exact ⟨γ, if_t (nI_le (a := 8) (by omega) (by omega)) rfl, rfl, fun _ _ => rfl, fun j h1 h2 => absurd h2 (by omega), fun _ _ => rfl⟩
  | succ m ih =>
    intro i k γ hi hk
    obtain ⟨k, rfl⟩ : ∃ k', k = k' + 1 := ⟨k - 1, by omega⟩
    obtain ⟨γ1, r1, r2, r3, r4, r5⟩ := ih (i + 1) k (cp γ 13 i 0) (by omega) (by omega)
    refine ⟨γ1, if_f (nI_ge (b := 8) (by omega) (by omega)) (ck_g (ib_nI (by omega) (by omega)) (sq_r (x1 := cp γ 13 i 0) (by rw [nI_clamp (by omega)]) (sq_r (nI_1 i) r1))), r2, fun a ha => by rw [r3 a ha, cp_ne _ _ _ _ ha], fun j h1 h2 => ?_, fun j hj => by rw [r5 j (by omega), cp_1, if_neg (by omega)]⟩
    by_cases e : j = i
    · rw [r5 j (by omega), cp_1, if_pos ⟨rfl, e⟩]
    · exact r4 j (by omega) h2
theorem spin_loop (n : Nat) (x1 x2 : Int32) {nl : Nat} (hnl : nl ≤ 8) : ∀ (m i k : Nat) (μ : MS), i + m = nl → m < k → μ.1 0 21 = nI nl → ∃ μ1, lm_spin_91 n k μ x1 x2 (nI i) = bd (fm_keepsTenth n μ1) (fun _ σ3 => bd (fm_toneOf n σ3 x1 x2) (fun r4 σ5 => some (r4, σ5))) ∧ μ1.2 = μ.2 ∧ (∀ a, a ≠ 13 → μ1.1 a = μ.1 a) ∧ (∀ j, i ≤ j → j < nl → μ1.1 13 j = 0) ∧ (∀ j, j < i → μ1.1 13 j = μ.1 13 j) := by
  intro m
  induction m with
  | zero =>
    intro i k μ hi hk h21
    obtain ⟨k, rfl⟩ : ∃ k', k = k' + 1 := ⟨k - 1, by omega⟩
    exact ⟨μ, if_t (by rw [h21]; exact nI_le (by omega) (by omega)) rfl, rfl, fun _ _ => rfl, fun j h1 h2 => absurd h2 (by omega), fun _ _ => rfl⟩
  | succ m ih =>
    intro i k μ hi hk h21
    obtain ⟨k, rfl⟩ : ∃ k', k = k' + 1 := ⟨k - 1, by omega⟩
    obtain ⟨μ1, r1, r2, r3, r4, r5⟩ := ih (i + 1) k (mp μ 13 i 0) (by omega) (by omega) (by rw [mp_ne _ _ _ _ (by decide)]; exact h21)
    refine ⟨μ1, if_f (by rw [h21]; exact nI_ge (by omega) (by omega)) (ck_g (ib_nI (by omega) (by omega)) (sq_r (x1 := mp μ 13 i 0) (by rw [nI_clamp (by omega)]) (sq_r (nI_1 i) r1))), r2, fun a ha => by rw [r3 a ha, mp_ne _ _ _ _ ha], fun j h1 h2 => ?_, fun j hj => by rw [r5 j (by omega), mp_1, if_neg (by omega)]⟩
    by_cases e : j = i
    · rw [r5 j (by omega), mp_1, if_pos ⟨rfl, e⟩]
    · exact r4 j (by omega) h2
def sC (γ : CS) (x1 x2 x3 x4 : Int32) : CS := cpj (cp (cp (cp (cp (cp (cp (cp (cp γ 12 0 1) 12 1 x1) 12 2 x2) 12 3 x3) 12 4 x2) 12 5 x4) 12 6 0) 12 7 0) 12 0
def sM (μ : MS) (x1 x2 x3 : Int32) : MS := mp (mq (mp (mp (mp (mp (mp (mp (mp μ 0 38 1) 0 39 x1) 0 40 x2) 0 41 x3) 0 44 x2) 0 42 0) 0 43 0) 46 0) 0 45 0
theorem sC_row (γ : CS) (x1 x2 x3 x4 : Int32) {a : Nat} (h : a ≠ 12) : (sC γ x1 x2 x3 x4).1 a = γ.1 a := by
  unfold sC
  rw [cpj_1]
  simp only [cp_ne _ _ _ _ h]
theorem sC_12 (γ : CS) (x1 x2 x3 x4 : Int32) : (sC γ x1 x2 x3 x4).1 12 0 = 1 ∧ (sC γ x1 x2 x3 x4).1 12 1 = x1 ∧ (sC γ x1 x2 x3 x4).1 12 2 = x2 ∧ (sC γ x1 x2 x3 x4).1 12 3 = x3 ∧ (sC γ x1 x2 x3 x4).1 12 4 = x2 ∧ (sC γ x1 x2 x3 x4).1 12 5 = x4 ∧ (sC γ x1 x2 x3 x4).1 12 6 = 0 ∧ (sC γ x1 x2 x3 x4).1 12 7 = 0 := by
  unfold sC
  simp [cpj_1, cp_1]
theorem sM_row (μ : MS) (x1 x2 x3 : Int32) {a : Nat} (h : a ≠ 0) : (sM μ x1 x2 x3).1 a = μ.1 a := by
  unfold sM
  rw [mp_ne _ _ _ _ h, mq_1]
  simp only [mp_ne _ _ _ _ h]
theorem sM_k (μ : MS) (x1 x2 x3 : Int32) {k : Nat} (h : k < 38 ∨ 45 < k) : (sM μ x1 x2 x3).1 0 k = μ.1 0 k := by
  unfold sM
  rw [mp_1, if_neg (by omega), mq_1, mp_1, if_neg (by omega), mp_1, if_neg (by omega), mp_1, if_neg (by omega), mp_1, if_neg (by omega), mp_1, if_neg (by omega), mp_1, if_neg (by omega), mp_1, if_neg (by omega)]
theorem sM_0 (μ : MS) (x1 x2 x3 : Int32) : (sM μ x1 x2 x3).1 0 38 = 1 ∧ (sM μ x1 x2 x3).1 0 39 = x1 ∧ (sM μ x1 x2 x3).1 0 40 = x2 ∧ (sM μ x1 x2 x3).1 0 41 = x3 ∧ (sM μ x1 x2 x3).1 0 44 = x2 ∧ (sM μ x1 x2 x3).1 0 42 = 0 ∧ (sM μ x1 x2 x3).1 0 43 = 0 ∧ (sM μ x1 x2 x3).1 0 45 = 0 := by
  unfold sM
  simp [mq_1, mp_1]
theorem s_spin (n : Nat) (hn : 10000 ≤ n) : st_spin n Rl := by
  intro γ μ x1 x2 x3 H
  show OK _ _
  obtain ⟨np, nl, ng, HB⟩ := H.2.2.2.1
  have hnp := HB.1.1
  have hnl := HB.1.2.1
  unfold fc_X7_spin fm_spin
  rcases plate_both n HB x1 with ⟨e1, e2⟩ | ⟨i, q, w, d, e, h, t, rfl, hi, e1, e2, hP⟩
  · exact OK_cm (bd_g e1 (oc_gn rfl rfl)) (bd_g e2 (if_t rfl rfl)) (OK_1 H)
  refine OK_cm (bd_g e1 (oc_gs rfl rfl)) (bd_g e2 (if_f one_ne rfl)) ?_
  rcases floor_both n γ μ x3 with ⟨e1, e2⟩ | ⟨f, hf, rfl, e1, e2⟩
  · exact OK_cm (bd_g e1 (if_t rfl rfl)) (bd_g e2 (if_t rfl rfl)) (OK_1 H)
  refine OK_cm (bd_g e1 (if_f one_ne rfl)) (bd_g e2 (if_f one_ne rfl)) ?_
  rcases lean_both n γ μ x2 with ⟨r, hr, e1, e2⟩ | ⟨l, hl, rfl, e1, e2⟩
  · exact OK_cm (bd_g e1 (if_f (ne46 hr) rfl)) (bd_g e2 (if_f (ne46 hr) rfl)) (OK_46 H hr)
  obtain ⟨p1, p2, p3, ⟨p4, p5, p6, p7, p8⟩, ⟨q4, q5, q6, q7, q8⟩, p9⟩ := id hP
  have q5 : μ.1 4 i = nI d := q5
  have q8 : μ.1 7 i = nI t := q8
  obtain ⟨γf, f1, f2, f3, f4, f5⟩ := fill_loop n 8 0 n (sC γ (nI i) (nI l) (nI f) (nI (TN l d t))) (by omega) (by omega)
  obtain ⟨μf, m1, m2, m3, m4, m5⟩ := spin_loop n (nI i) (nI l) hnl nl 0 n (sM μ (nI i) (nI l) (nI f)) (by omega) (by omega) (by rw [sM_k _ _ _ _ (by omega)]; exact HB.2.2.1.2)
  obtain ⟨c0, c1, c2, c3, c4, c5, c6, c7⟩ := sC_12 γ (nI i) (nI l) (nI f) (nI (TN l d t))
  obtain ⟨v0, v1, v2, v3, v4, v5, v6, v7⟩ := sM_0 μ (nI i) (nI l) (nI f)
  have hkc := keep_C n (γ := cp γf 12 9 0) (tc := 0) (by omega) (by rw [cp_1, if_pos ⟨rfl, rfl⟩]; rfl)
  have hkm := keep_M n (μ := μf) (tk := 0) (tc := 0) (pn := i) (ln := l) (d := d) (t := t) (by omega) (by rw [m3 0 (by decide), v5]; rfl) (by omega) (by rw [m3 0 (by decide), v7]; rfl) (by omega) (by rw [m3 0 (by decide), v1]) hl (by rw [m3 0 (by decide), v2]) (by omega) (by omega) (by rw [m3 4 (by decide), sM_row _ _ _ _ (by decide)]; exact q5) (by rw [m3 7 (by decide), sM_row _ _ _ _ (by decide)]; exact q8)
  rw [if_pos (by decide)] at hkm
  have hst : fc_X5_start n γ (nI i) (nI l) (nI f) (nI (TN l d t)) = some (0, kC (cp γf 12 9 0) 0) := sq_g (sq_g (sq_g (sq_g (sq_g (sq_g (sq_g (sq_g (sq_g (bd_g (show fc_J7_fill_53178 n (sC γ (nI i) (nI l) (nI f) (nI (TN l d t))) 0 = some (0, γf) from f1) (sq_g (bd_g hkc rfl)))))))))))
  have hsm : lm_spin_91 n n (sM μ (nI i) (nI l) (nI f)) (nI i) (nI l) 0 = some (nI (TN l d t), kM μf 0 (nI (TN l d t))) := m1.trans (bd_g hkm (bd_g (mtone n _ (by omega) hl (by omega) (by omega) (by rw [kM_row _ _ _ (by decide) (by decide) (by decide), m3 4 (by decide), sM_row _ _ _ _ (by decide)]; exact q5) (by rw [kM_row _ _ _ (by decide) (by decide) (by decide), m3 7 (by decide), sM_row _ _ _ _ (by decide)]; exact q8)) rfl))
  refine OK_cm (bd_g e1 (if_t rfl (ck_g p2 (ck_g p2 (bd_g (by rw [p5, p8]; exact ctone n γ hl (by omega) (by omega)) (bd_g hst rfl)))))) (bd_g e2 (if_t rfl (sq_g (sq_g (sq_g (sq_g (sq_g (sq_g (sq_g (sq_g (sq_g (sq_g hsm)))))))))))) (OK_ret rfl ?_)
  have C22 : (kC (cp γf 12 9 0) 0).2.2 = γ.2.2 := by rw [kC_2, cp_2, f2]; rfl
  have CI : ∀ a, (a < 12 ∨ 15 < a) → (kC (cp γf 12 9 0) 0).1 a = γ.1 a := fun a ha => by rw [kC_row _ _ (by omega) (by omega) (by omega), cp_ne _ _ _ _ (by omega), f3 a (by omega), sC_row _ _ _ _ _ (by omega)]
  have C12 : ∀ k, k ≠ 9 → (kC (cp γf 12 9 0) 0).1 12 k = (sC γ (nI i) (nI l) (nI f) (nI (TN l d t))).1 12 k := fun k hk => by rw [kC_12 _ _ hk, cp_1, if_neg (by omega), f3 12 (by decide)]
  have MM : ∀ a, a ≠ 0 → a ≠ 13 → a ≠ 17 → a ≠ 18 → a ≠ 19 → a ≠ 20 → (kM μf 0 (nI (TN l d t))).1 a = μ.1 a := fun a h0 h13 _ _ h19 h20 => by rw [kM_row _ _ _ h0 h19 h20, m3 a h13, sM_row _ _ _ _ h0]
  have M0 : ∀ k, k ≠ 45 → (kM μf 0 (nI (TN l d t))).1 0 k = (sM μ (nI i) (nI l) (nI f)).1 0 k := fun k hk => by rw [kM_0 _ _ _ hk, m3 0 (by decide)]
  have MS0 : ∀ k, (k < 25 ∨ 45 < k) → (kM μf 0 (nI (TN l d t))).1 0 k = μ.1 0 k := fun k hk => by rw [M0 k (by omega), sM_k _ _ _ _ (by omega)]
  have g4 : (cp γf 12 9 0).1 12 4 = nI l := by rw [cp_1, if_neg (by omega), f3 12 (by decide), c4]
  have g5 : (cp γf 12 9 0).1 12 5 = nI (TN l d t) := by rw [cp_1, if_neg (by omega), f3 12 (by decide), c5]
  have hks := k_same (γ := cp γf 12 9 0) (μ := μf) (tc := 0) (by rw [g4, m3 0 (by decide), v2]) (fun i hi => absurd hi (by omega))
  rw [g5] at hks
  have hS : SP (kC (cp γf 12 9 0) 0) (kM μf 0 (nI (TN l d t))) i l f l 0 0 1 q w d e h t := by
    refine ⟨⟨by omega, hl, hf, hl, by omega, by omega, by omega⟩, PLr_move (PO_22 C22 (fun a ha => CI a (by omega))) (by rw [C22]) (fun a h1 h2 => ?_) hP, ⟨(C12 1 (by decide)).trans c1, (M0 39 (by decide)).trans v1⟩, ⟨(C12 2 (by decide)).trans c2, (M0 44 (by decide)).trans v4⟩, ⟨(C12 3 (by decide)).trans c3, (M0 41 (by decide)).trans v3⟩, ⟨(C12 4 (by decide)).trans c4, (M0 40 (by decide)).trans v2⟩, (C12 5 (by decide)).trans c5, ⟨(C12 6 (by decide)).trans c6, (M0 42 (by decide)).trans v5⟩, ⟨(C12 7 (by decide)).trans c7, (M0 43 (by decide)).trans v6⟩, ⟨kC_9 (by rw [cp_1, if_pos ⟨rfl, rfl⟩]; rfl), kM_45 _ (by rw [m3 0 (by decide), v7]; rfl)⟩, hks⟩
    show (kM μf 0 (nI (TN l d t))).1 a i = μ.1 a i
    rw [MM a (by omega) (by omega) (by omega) (by omega) (by omega) (by omega)]
  have hsp : SPr (kC (cp γf 12 9 0) 0) 5 (live (kM μf 0 (nI (TN l d t)))) np nl := by
    refine SPr_mk hi ((C12 0 (by decide)).trans c0) ((M0 38 (by decide)).trans v0) ?_ (fun j hj => ?_) (fun j h1 h2 => ?_) hS
    · rw [kC_2, kM_2, cp_2, f2, m2]; rfl
    · rw [kC_row _ _ (by decide) (by decide) (by decide), cp_ne _ _ _ _ (by decide), f4 j (by omega) (by omega), kM_row _ _ _ (by decide) (by decide) (by decide), m4 j (by omega) hj]
    · rw [kC_row _ _ (by decide) (by decide) (by decide), cp_ne _ _ _ _ (by decide), f4 j (by omega) (by omega)]
  exact Rl_spun H (RB_spun HB C22 CI MM MS0 hsp) C22 CI (by rw [kC_2, cp_2, f2]; rfl) MM MS0 (by rw [kM_2, m2]; rfl)
end
