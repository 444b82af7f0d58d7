/-! how far off the tones heard are -/
theorem nI10 {i : Nat} (h : i ≤ 1000) : 10 * nI i = nI (10 * i) := nI_mul (a := 10) (by omega) (by omega) (by omega)
theorem nI10' {i : Nat} (h : i ≤ 1000) : nI i * 10 = nI (10 * i) := by
  have := nI_mul (a := i) (b := 10) (by omega) (by omega) (by omega)
  rw [Nat.mul_comm i 10] at this
  exact this
def adf (a b : Nat) : Nat := if b ≤ a then a - b else b - a
theorem adf_c {a b : Nat} (ha : a ≤ 99999) (hb : b ≤ 99999) : (if 0 ≤ nI a - nI b then nI a - nI b else 0 - (nI a - nI b)) = nI (adf a b) := by
  unfold adf
  have e0 : (0 : Int32).toInt = 0 := by decide
  have ed : (nI a - nI b).toInt = (a : Int) - b := by rw [i_sub (by rw [nI_toInt (by omega), nI_toInt (by omega)]; omega) (by rw [nI_toInt (by omega), nI_toInt (by omega)]; omega), nI_toInt (by omega), nI_toInt (by omega)]
  by_cases c : b ≤ a
  · rw [if_pos c, if_pos (by rw [Int32.le_iff_toInt_le, e0, ed]; omega), nI_sub c (by omega)]
  · rw [if_neg c, if_neg (by rw [Int32.le_iff_toInt_le, e0, ed]; omega)]
    exact nI_of_toInt (by rw [i_sub (by omega) (by omega), e0, ed]; omega)
/-- the class may lag behind -/
def Lag (n : Nat) (γ γ1 : CS) (tick s : Nat) : Prop := ∀ T γ2 m, tick ≤ T → T < 2 ^ 31 → RT n γ1 T γ2 m → RT n γ T γ2 (m + s)
theorem Lag.rf (n : Nat) (γ : CS) (tick : Nat) : Lag n γ γ tick 0 := fun _ _ _ _ _ h => h
theorem off_run (n : Nat) (hn : 10000 ≤ n) {nl p f i : Nat} (hi : i < 24) (K9 : MS → Int32 → Int32 → Int32 → Option (Int32 × MS)) (x1 x2 : Int32) : ∀ (m : Nat) (γ0 γ : CS) (μ : MS) (lean tick en s k : Nat), JR γ μ nl p f lean tick 1 en → μ.1 0 35 = nI en → tick + m = 10 * i → m < k → Lag n γ0 γ tick s → ∃ γ1 μ1 lean1 tick1 en1 s1, lm_offs_17 n K9 k μ x1 x2 (nI i) = bm_offs_47 n K9 μ1 x1 x2 (nI i) ∧ JR γ1 μ1 nl p f lean1 tick1 1 en1 ∧ μ1.1 0 35 = nI en1 ∧ tick1 ≤ 10 * i ∧ (tick1 = 10 * i ∨ en1 ≠ 0) ∧ Lag n γ0 γ1 tick1 s1 ∧ s1 ≤ s + m ∧ s1 + tick = s + tick1 ∧ CG γ γ1 ∧ ME μ μ1 := by
  intro m
  induction m with
  | zero =>
    intro γ0 γ μ lean tick en s k hJ h35 hm hk hL
    obtain ⟨k, rfl⟩ : ∃ k', k = k' + 1 := ⟨k - 1, by omega⟩
    exact ⟨γ, μ, lean, tick, en, s, if_t (by rw [nI10 (by omega), JR_m29 hJ]; exact nI_le (by omega) (by omega)) rfl, hJ, h35, by omega, Or.inl (by omega), hL, by omega, rfl, CG.rf γ, ME.rf μ⟩
  | succ m ih =>
    intro γ0 γ μ lean tick en s k hJ h35 hm hk hL
    obtain ⟨k, rfl⟩ : ∃ k', k = k' + 1 := ⟨k - 1, by omega⟩
    have h4 := hJ.2.2.2.2.1
    have hlt : ¬ (10 * nI i ≤ μ.1 0 29) := by rw [nI10 (by omega), JR_m29 hJ]; exact nI_ge (by omega) (by omega)
    by_cases hen : en = 0
    · subst hen
      obtain ⟨γ1, μ1, V, kd, X, lean1, en1, hT, hJ1⟩ := JR_step n (by omega) hJ (Nat.le_refl 1) (by omega)
      obtain ⟨γ2, μ2, lean2, tick2, en2, s2, r1, r2, r3, r4, r5, r6, r7, r8, r9, r10⟩ := ih γ0 γ1 (mp μ1 0 35 (nI en1)) lean1 (tick + 1) en1 (s + 1) k (JR_35 hJ1 _) (by rw [mp_1, if_pos ⟨rfl, rfl⟩]) (by omega) (by omega) (fun T γ3 m3 hT1 hT2 h3 => by
        have := hL T γ3 (m3 + 1) (by omega) hT2 (RT_step (JR_c5 hJ) hJ.2.2.1 (by omega) hT2 hT.1 h3)
        rw [show m3 + (s + 1) = m3 + 1 + s by omega]
        exact this)
      exact ⟨γ2, μ2, lean2, tick2, en2, s2, if_f hlt (if_t h35 (bd_g hT.2.1 (sq_g r1))), r2, r3, r4, r5, r6, by omega, by omega, CG.tr (TB_CG hT) r9, ME.tr hT.2.2.2.1 (ME.tr (ME_mp0 (by omega) _) r10)⟩
    · exact ⟨γ, μ, lean, tick, en, s, if_f hlt (if_f (by rw [h35]; exact nI_ne0 (by omega) (by omega)) rfl), hJ, h35, by omega, Or.inr hen, hL, by omega, rfl, CG.rf γ, ME.rf μ⟩
/-- at a tenth, in both -/
theorem off_at (n : Nat) (hn : 10000 ≤ n) {nl p f i : Nat} (hi : i < 24) (K9 : MS → Int32 → Int32 → Int32 → Option (Int32 × MS)) (x1 x2 : Int32) {γ0 γ : CS} {μ : MS} {lean tick en s : Nat} (hJ : JR γ μ nl p f lean tick 1 en) (h35 : μ.1 0 35 = nI en) (ht : tick ≤ 10 * i) (hs : s ≤ tick) (hL : Lag n γ0 γ tick s) : ∃ γ1 μ1 lean1 tick1 en1 s1, lm_offs_17 n K9 n μ x1 x2 (nI i) = bm_offs_47 n K9 μ1 x1 x2 (nI i) ∧ fc_X2_runTo n γ0 (nI (10 * i)) = some (0, γ1) ∧ JR γ1 μ1 nl p f lean1 tick1 1 en1 ∧ μ1.1 0 35 = nI en1 ∧ tick1 ≤ 10 * i ∧ Lag n γ0 γ1 tick1 s1 ∧ s1 ≤ tick1 ∧ CG γ γ1 ∧ ME μ μ1 := by
  obtain ⟨γ1, μ1, lean1, tick1, en1, s1, r1, r2, r3, r4, r5, r6, r7, r8, r9, r10⟩ := off_run n hn hi K9 x1 x2 (10 * i - tick) γ0 γ μ lean tick en s n hJ h35 (by omega) (by omega) hL
  refine ⟨γ1, μ1, lean1, tick1, en1, s1, r1, ?_, r2, r3, r4, r6, by omega, r9, r10⟩
  have h4 := r2.2.2.2.2.1
  have hR : RT n γ1 (10 * i) γ1 0 := RT_stop (JR_c5 r2) r2.2.2.1 (by omega) (by omega) (by rcases r5 with h | h; exact Or.inl (by omega); exact Or.inr h)
  exact RT_run (m := s1) (by omega) (by omega) (by have := r6 (10 * i) γ1 0 r4 (by omega) hR; rw [Nat.zero_add] at this; exact this)
theorem JR_tone (n : Nat) {γ : CS} {μ : MS} {nl p f lean tick stp en : Nat} (h : JR γ μ nl p f lean tick stp en) : ∃ tn : Nat, tn ≤ 9810 ∧ γ.1 31 4 = nI tn ∧ fm_toneOf n μ (μ.1 0 25) (μ.1 0 26) = some (nI tn, μ) := by
  obtain ⟨d, t, hh, ⟨k1, k2, k3, k4, k5, k6⟩, hMD, hIN, _⟩ := h.2.1
  refine ⟨TN lean d t, TN_le k5, hMD.2.1, ?_⟩
  rw [hIN.1, hIN.2.1]
  exact mtone n μ (by omega) k3 k4 k5 hIN.2.2.2.2.1 hIN.2.2.2.2.2.1
/-- the row of tones, in both -/
def RW (γ : CS) (μ : MS) (len sl : Nat) : Prop := len ≤ 24 ∧ sl ≤ 999 ∧ γ.1 16 1 = nI len ∧ μ.1 0 48 = nI len ∧ γ.1 16 2 = nI sl ∧ μ.1 0 49 = nI sl ∧ ∀ i, i < len → γ.1 17 i = μ.1 21 i ∧ (γ.1 17 i = -1 ∨ ∃ t : Nat, t ≤ 99999 ∧ γ.1 17 i = nI t)
theorem RW_of {γ : CS} {μ : MS} {np nl ng : Nat} (HB : RBn γ 5 (live μ) np nl ng) : ∃ len sl, RW γ μ len sl := by
  obtain ⟨len, sl, h1, h2, h3, h4, h5⟩ := HB.2.2.2.2.2.2.2.2.2.2.2
  exact ⟨len, sl, h1, h2, h3.1, h3.2, h4.1, h4.2, h5⟩
theorem RW_EN {γ0 γ : CS} {μ0 μ : MS} {len sl : Nat} (hE : EN γ0 μ0 γ μ) (h : RW γ0 μ0 len sl) : RW γ μ len sl := by
  unfold RW
  have eC : ∀ a, a < 31 → γ.1 a = γ0.1 a := fun a ha => hE.1.1.2.2.2 a (by omega) (by omega) (by omega) (by omega)
  rw [eC 16 (by omega), eC 17 (by omega), hE.2.2.2 48 (by omega), hE.2.2.2 49 (by omega), hE.2.2.1 21 (by omega) (by omega) (by omega)]
  exact h
/-- a tone that was heard: how far off, in both -/
theorem off_heard (n : Nat) (hn : 10000 ≤ n) {nl p f i len sl tn : Nat} (K9 : MS → Int32 → Int32 → Int32 → Option (Int32 × MS)) (x1 x2 : Int32) {γa γ0 γ : CS} {μa μ : MS} {lean tick en s : Nat} (hR : RW γa μa len sl) (hi : i < len) (htn : tn ≤ 99999) (hC : γa.1 17 i = nI tn) (hM : μa.1 21 i = nI tn) (h0 : CG γa γ0) (hE : EN γa μa γ μ) (hJ : JR γ μ nl p f lean tick 1 en) (h35 : μ.1 0 35 = nI en) (ht : tick ≤ 10 * i) (hs : s ≤ tick) (hL : Lag n γ0 γ tick s) : ∃ γ1 μ1 lean1 tick1 en1 off, fc_X2_offAt n γ0 (nI i) = some (nI off, γ1) ∧ lm_offs_17 n K9 n μ x1 x2 (nI i) = bm_offs_122 n K9 μ1 x1 x2 (nI i) (nI off) ∧ off ≤ 99999 ∧ (tick1 < 10 * i → off = 99999) ∧ JR γ1 μ1 nl p f lean1 tick1 1 en1 ∧ μ1.1 0 35 = nI en1 ∧ tick1 ≤ 10 * i ∧ EN γa μa γ1 μ1 := by
  have hlen := hR.1
  obtain ⟨γ1, μ1, lean1, tick1, en1, s1, r1, r2, r3, r4, r5, r6, r7, r8, r9⟩ := off_at n hn (show i < 24 by omega) K9 x1 x2 hJ h35 ht hs hL
  have hE1 : EN γa μa γ1 μ1 := EN.tr hE ⟨r8, r9⟩
  obtain ⟨tone, htone, tC, tM⟩ := JR_tone n r3
  have hR1 := RW_EN hE1 hR
  have eC1 : γ1.1 17 i = nI tn := by rw [hE1.1.1.2.2.2 17 (by decide) (by decide) (by decide) (by omega)]; exact hC
  have eM1 : μ1.1 21 i = nI tn := by rw [hE1.2.2.1 21 (by decide) (by decide) (by decide)]; exact hM
  have ec : Int32.toNatClampNeg (nI i) = i := nI_clamp (by omega)
  have hib : ib (nI i) 24 = true := ib_nI (by omega) (by omega)
  have h5 := JR_c5 r3
  have h29 := JR_m29 r3
  have hadf : adf tn tone ≤ 99999 := by unfold adf; by_cases c : tone ≤ tn; rw [if_pos c]; omega; rw [if_neg c]; omega
  by_cases c : tick1 = 10 * i
  · refine ⟨γ1, μ1, lean1, tick1, en1, adf tn tone, ?_, ?_, hadf, by omega, r3, r4, r5, hE1⟩
    · unfold fc_X2_offAt
      refine sq_r (nI10' (by omega)) (bd_g r2 (if_t (by rw [h5, c]) (bd_g (tot n γ1 hR1.1 hi hR1.2.2.1) (sq_r (x1 := nI (adf tn tone)) ?_ rfl))))
      rw [eC1, tC]
      exact adf_c htn (by omega)
    · rw [r1]
      unfold bm_offs_47
      refine ck_g hib (sq_r (x1 := nI tn) (by rw [ec]; exact eM1) (if_t (nI_pos' (by omega)) (bd_g tM (if_t (by rw [h29, nI10 (by omega), c]; exact Int32.le_refl _) (ck_g hib (sq_r (x1 := nI tn) (by rw [ec]; exact eM1) ?_))))))
      unfold adf
      by_cases c2 : tone ≤ tn
      · rw [if_pos c2]
        exact if_t (nI_le c2 (by omega)) (ck_g hib (sq_r (x1 := nI tn) (by rw [ec]; exact eM1) (by rw [nI_sub c2 (by omega)])))
      · rw [if_neg c2]
        exact if_f (nI_ge (by omega) (by omega)) (ck_g hib (sq_r (x1 := nI tn) (by rw [ec]; exact eM1) (by rw [nI_sub (by omega) (by omega)])))
  · refine ⟨γ1, μ1, lean1, tick1, en1, 99999, ?_, ?_, by omega, by omega, r3, r4, r5, hE1⟩
    · unfold fc_X2_offAt
      exact sq_r (nI10' (by omega)) (bd_g r2 (if_f (by rw [h5]; exact fun h => c ((nI_eq (by omega) (by omega)).mp h)) rfl))
    · rw [r1]
      unfold bm_offs_47
      exact ck_g hib (sq_r (x1 := nI tn) (by rw [ec]; exact eM1) (if_t (nI_pos' (by omega)) (bd_g tM (if_f (by rw [h29, nI10 (by omega)]; exact nI_ge (by omega) (by omega)) rfl))))
/-- a tone that wasn't heard -/
theorem off_not (n : Nat) (hn : 10000 ≤ n) {nl p f i len sl : Nat} (K9 : MS → Int32 → Int32 → Int32 → Option (Int32 × MS)) (x1 x2 : Int32) {γa γ0 γ : CS} {μa μ : MS} {lean tick en s : Nat} (hR : RW γa μa len sl) (hi : i < len) (hM : μa.1 21 i < 0) (hE : EN γa μa γ μ) (hJ : JR γ μ nl p f lean tick 1 en) (h35 : μ.1 0 35 = nI en) (ht : tick ≤ 10 * i) (hs : s ≤ tick) (hL : Lag n γ0 γ tick s) : ∃ γ1 μ1 lean1 tick1 en1 s1, lm_offs_17 n K9 n μ x1 x2 (nI i) = K9 μ1 x1 x2 (nI (i + 1)) ∧ JR γ1 μ1 nl p f lean1 tick1 1 en1 ∧ μ1.1 0 35 = nI en1 ∧ tick1 ≤ 10 * i ∧ Lag n γ0 γ1 tick1 s1 ∧ s1 ≤ tick1 ∧ EN γa μa γ1 μ1 := by
  have hlen := hR.1
  obtain ⟨γ1, μ1, lean1, tick1, en1, s1, r1, r2, r3, r4, r5, r6, r7, r8, r9⟩ := off_at n hn (show i < 24 by omega) K9 x1 x2 hJ h35 ht hs hL
  have hE1 : EN γa μa γ1 μ1 := EN.tr hE ⟨r8, r9⟩
  have eM1 : μ1.1 21 i = μa.1 21 i := by rw [hE1.2.2.1 21 (by decide) (by decide) (by decide)]
  have ec : Int32.toNatClampNeg (nI i) = i := nI_clamp (by omega)
  refine ⟨γ1, μ1, lean1, tick1, en1, s1, ?_, r3, r4, r5, r6, r7, hE1⟩
  rw [r1]
  unfold bm_offs_47
  exact ck_g (ib_nI (by omega) (by omega)) (sq_r (x1 := μa.1 21 i) (by rw [ec]; exact eM1) (if_f (gt_nle hM) (sq_r (nI_1 i) rfl)))
theorem misfit_loop (n : Nat) (hn : 10000 ≤ n) {γa : CS} {μa : MS} {nl p f len sl : Nat} (hR : RW γa μa len sl) (x1 : Int32) (hx : ¬ x1 = 0) : ∀ m i k γ0 γ μ sum lean tick en s, i + m = len → m < k → CG γa γ0 → EN γa μa γ μ → JR γ μ nl p f lean tick 1 en → μ.1 0 35 = nI en → tick ≤ 10 * i → s ≤ tick → Lag n γ0 γ tick s → OKE γa μa (lc_X7_firstMisfit_10 n k γ0 (nI i)) (lm_offs_9 n k μ x1 sum (nI i)) := by
  have hlen := hR.1
  intro m
  induction m with
  | zero =>
    intro i k γ0 γ μ sum lean tick en s hi hk h0 hE hJ h35 ht hs hL
    obtain ⟨k, rfl⟩ : ∃ k', k = k' + 1 := ⟨k - 1, by omega⟩
    have hR0 := RW_EN ⟨h0, ME.rf μa⟩ hR
    have hR1 := RW_EN hE hR
    exact OKE_cm (if_t (by rw [hR0.2.2.1]; exact nI_le (by omega) (by omega)) rfl) (if_t (by rw [hR1.2.2.2.1]; exact nI_le (by omega) (by omega)) (if_f hx rfl)) (OKE_ret rfl ⟨h0, hE.2⟩)
  | succ m ih =>
    intro i k γ0 γ μ sum lean tick en s hi hk h0 hE hJ h35 ht hs hL
    obtain ⟨k, rfl⟩ : ∃ k', k = k' + 1 := ⟨k - 1, by omega⟩
    have hR0 := RW_EN ⟨h0, ME.rf μa⟩ hR
    have hR1 := RW_EN hE hR
    have e17 : γ0.1 17 i = γa.1 17 i := by rw [h0.1.2.2.2 17 (by decide) (by decide) (by decide) (by omega)]
    refine OKE_cm (show lc_X7_firstMisfit_10 n (k + 1) γ0 (nI i) = _ from if_f (by rw [hR0.2.2.1]; exact nI_ge (by omega) (by omega)) (bd_g (heardC n γ0 hlen (by omega) hR0.2.2.1) rfl)) (show lm_offs_9 n (k + 1) μ x1 sum (nI i) = _ from if_f (by rw [hR1.2.2.2.1]; exact nI_ge (by omega) (by omega)) rfl) ?_
    rcases hd_both (hR.2.2.2.2.2.2 i (by omega)) with ⟨a1, a2⟩ | ⟨tn, htn, a1, a2, a3, a4⟩
    · obtain ⟨γ1, μ1, lean1, tick1, en1, s1, u1, u2, u3, u4, u5, u6, u7⟩ := off_not n hn (lm_offs_9 n k) x1 sum hR (show i < len by omega) a2 hE hJ h35 ht hs hL
      exact OKE_cm (if_t (by rw [e17]; exact if_pos a1) (sq_r (nI_1 i) rfl)) u1 (ih (i + 1) k γ0 γ1 μ1 sum lean1 tick1 en1 s1 (by omega) (by omega) h0 u7 u2 u3 (by omega) u6 u5)
    · obtain ⟨γ1, μ1, lean1, tick1, en1, off, u1, u2, u3, u4, u5, u6, u7, u8⟩ := off_heard n hn (lm_offs_9 n k) x1 sum hR (show i < len by omega) htn a1 a2 h0 hE hJ h35 ht hs hL
      have hR2 := RW_EN u8 hR
      have hsl := hR.2.1
      refine OKE_cm (if_f (by rw [e17, if_neg a3]; decide) (bd_g u1 rfl)) u2 ?_
      unfold bm_offs_122 bm_offs_150
      refine OKE_cm rfl (if_f hx rfl) ?_
      rw [JR_m29 u5, nI10 (by omega), hR2.2.2.2.2.1, hR2.2.2.2.2.2.1]
      by_cases c1 : tick1 < 10 * i
      · have := u4 c1
        exact OKE_cm (if_f (nI_ge (by omega) (by omega)) rfl) (if_t (nI_lt c1 (by omega)) rfl) (OKE_ret rfl u8)
      · refine OKE_cm rfl (if_f (nI_nlt (by omega) (by omega)) rfl) ?_
        by_cases c2 : off ≤ sl
        · exact OKE_cm (if_t (nI_le c2 (by omega)) (sq_r (nI_1 i) rfl)) (if_t (nI_le c2 (by omega)) (sq_g (sq_r (nI_1 i) rfl))) (ih (i + 1) k γ1 γ1 μ1 _ lean1 tick1 en1 0 (by omega) (by omega) u8.1 u8 u5 u6 (by omega) (by omega) (Lag.rf n γ1 tick1))
        · exact OKE_cm (if_f (nI_ge (by omega) (by omega)) rfl) (if_f (nI_ge (by omega) (by omega)) rfl) (OKE_ret rfl u8)
theorem inall_loop (n : Nat) (hn : 10000 ≤ n) {γa : CS} {μa : MS} {nl p f len sl : Nat} (hR : RW γa μa len sl) (x1 : Int32) (hx : x1 = 0) : ∀ m i k γ0 γ μ sum lean tick en s, i + m = len → m < k → CG γa γ0 → EN γa μa γ μ → JR γ μ nl p f lean tick 1 en → μ.1 0 35 = nI en → tick ≤ 10 * i → s ≤ tick → Lag n γ0 γ tick s → OKE γa μa (lc_X7_offInAll_41 n k γ0 sum (nI i)) (lm_offs_9 n k μ x1 sum (nI i)) := by
  have hlen := hR.1
  intro m
  induction m with
  | zero =>
    intro i k γ0 γ μ sum lean tick en s hi hk h0 hE hJ h35 ht hs hL
    obtain ⟨k, rfl⟩ : ∃ k', k = k' + 1 := ⟨k - 1, by omega⟩
    have hR0 := RW_EN ⟨h0, ME.rf μa⟩ hR
    have hR1 := RW_EN hE hR
    exact OKE_cm (if_t (by rw [hR0.2.2.1]; exact nI_le (by omega) (by omega)) rfl) (if_t (by rw [hR1.2.2.2.1]; exact nI_le (by omega) (by omega)) (if_t hx rfl)) (OKE_ret rfl ⟨h0, hE.2⟩)
  | succ m ih =>
    intro i k γ0 γ μ sum lean tick en s hi hk h0 hE hJ h35 ht hs hL
    obtain ⟨k, rfl⟩ : ∃ k', k = k' + 1 := ⟨k - 1, by omega⟩
    have hR0 := RW_EN ⟨h0, ME.rf μa⟩ hR
    have hR1 := RW_EN hE hR
    have e17 : γ0.1 17 i = γa.1 17 i := by rw [h0.1.2.2.2 17 (by decide) (by decide) (by decide) (by omega)]
    refine OKE_cm (show lc_X7_offInAll_41 n (k + 1) γ0 sum (nI i) = _ from if_f (by rw [hR0.2.2.1]; exact nI_ge (by omega) (by omega)) (bd_g (heardC n γ0 hlen (by omega) hR0.2.2.1) rfl)) (show lm_offs_9 n (k + 1) μ x1 sum (nI i) = _ from if_f (by rw [hR1.2.2.2.1]; exact nI_ge (by omega) (by omega)) rfl) ?_
    rcases hd_both (hR.2.2.2.2.2.2 i (by omega)) with ⟨a1, a2⟩ | ⟨tn, htn, a1, a2, a3, a4⟩
    · obtain ⟨γ1, μ1, lean1, tick1, en1, s1, u1, u2, u3, u4, u5, u6, u7⟩ := off_not n hn (lm_offs_9 n k) x1 sum hR (show i < len by omega) a2 hE hJ h35 ht hs hL
      exact OKE_cm (if_t (by rw [e17]; exact if_pos a1) (sq_r (nI_1 i) rfl)) u1 (ih (i + 1) k γ0 γ1 μ1 sum lean1 tick1 en1 s1 (by omega) (by omega) h0 u7 u2 u3 (by omega) u6 u5)
    · obtain ⟨γ1, μ1, lean1, tick1, en1, off, u1, u2, u3, u4, u5, u6, u7, u8⟩ := off_heard n hn (lm_offs_9 n k) x1 sum hR (show i < len by omega) htn a1 a2 h0 hE hJ h35 ht hs hL
      refine OKE_cm (if_f (by rw [e17, if_neg a3]; decide) (bd_g u1 (sq_g (sq_r (nI_1 i) rfl)))) u2 ?_
      unfold bm_offs_122 bm_offs_150
      exact OKE_cm rfl (if_t hx (sq_g (sq_r (nI_1 i) rfl))) (ih (i + 1) k γ1 γ1 μ1 _ lean1 tick1 en1 0 (by omega) (by omega) u8.1 u8 u5 u6 (by omega) (by omega) (Lag.rf n γ1 tick1))
