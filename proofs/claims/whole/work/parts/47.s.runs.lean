/-! many ticks of both -/
theorem MR_35 {γ : CS} {μ : MS} {nl p f l tk stp : Nat} (h : MR γ μ nl p f l tk stp) (v : Int32) : MR γ (mp μ 0 35 v) nl p f l tk stp := by
  obtain ⟨d, t, hh, a1, a2, ⟨c1, c2, c3, c4, c5, c6, c7, c8⟩, a4, a5, a6, a7⟩ := h
  have em : ∀ k, k ≠ 35 → (mp μ 0 35 v).1 0 k = μ.1 0 k := fun k hk => by rw [mp_1, if_neg (fun h => hk h.2)]
  have er : ∀ a, a ≠ 0 → (mp μ 0 35 v).1 a = μ.1 a := fun a ha => mp_ne _ _ _ _ ha
  refine ⟨d, t, hh, a1, a2, ⟨by rw [em _ (by decide)]; exact c1, by rw [em _ (by decide)]; exact c2, by rw [em _ (by decide)]; exact c3, by rw [em _ (by decide)]; exact c4, by rw [er _ (by decide)]; exact c5, by rw [er _ (by decide)]; exact c6, c7, c8⟩, by rw [er 3 (by decide), er 5 (by decide), er 8 (by decide), er 9 (by decide)]; exact a4, by rw [em _ (by decide), er 6 (by decide)]; exact a5, by rw [em _ (by decide)]; exact a6, ?_⟩
  rw [em _ (by decide), em _ (by decide)]
  exact a7
def JR (γ : CS) (μ : MS) (nl p f lean tick stp en : Nat) : Prop := LL γ μ nl ∧ MR γ μ nl p f lean tick stp ∧ γ.1 31 6 = nI en ∧ (en = 0 → tick ≤ 9998) ∧ en ≤ 4 ∧ tick ≤ 10008
theorem JR_35 {γ : CS} {μ : MS} {nl p f l tk stp en : Nat} (h : JR γ μ nl p f l tk stp en) (v : Int32) : JR γ (mp μ 0 35 v) nl p f l tk stp en := ⟨LL_eng (CE.rf γ) (ME_mp0 (by omega) v) h.1, MR_35 h.2.1 v, h.2.2⟩
theorem JR_c5 {γ : CS} {μ : MS} {nl p f l tk stp en : Nat} (h : JR γ μ nl p f l tk stp en) : γ.1 31 5 = nI tk := by
  obtain ⟨d, t, hh, a1, a2, _⟩ := h.2.1
  exact a2.2.2.1
theorem JR_m29 {γ : CS} {μ : MS} {nl p f l tk stp en : Nat} (h : JR γ μ nl p f l tk stp en) : μ.1 0 29 = nI tk := by
  obtain ⟨d, t, hh, a1, a2, a3, _⟩ := h.2.1
  exact a3.2.2.2.1
theorem enD_le (a b c : Nat) (l : Bool) : enD a b c l ≤ 4 := by
  unfold enD
  by_cases c1 : a = 0
  · rw [if_pos c1]; omega
  · rw [if_neg c1]
    by_cases c2 : l = true
    · rw [if_pos c2]; omega
    · rw [if_neg c2]
      by_cases c3 : b = 0
      · rw [if_pos c3]; omega
      · rw [if_neg c3]
        by_cases c4 : c < 9999
        · rw [if_pos c4]; omega
        · rw [if_neg c4]; omega
theorem enD_0 {a b c : Nat} {l : Bool} (h : enD a b c l = 0) : c ≤ 9998 := by
  unfold enD at h
  by_cases c1 : a = 0
  · rw [if_pos c1] at h; omega
  · rw [if_neg c1] at h
    by_cases c2 : l = true
    · rw [if_pos c2] at h; omega
    · rw [if_neg c2] at h
      by_cases c3 : b = 0
      · rw [if_pos c3] at h; omega
      · rw [if_neg c3] at h
        by_cases c4 : c < 9999
        · omega
        · rw [if_neg c4] at h; omega
theorem JR_step (n : Nat) (hn : 21 ≤ n) {γ : CS} {μ : MS} {nl p f lean tick stp : Nat} (h : JR γ μ nl p f lean tick stp 0) (hs1 : 1 ≤ stp) (hs2 : stp ≤ 10) : ∃ γ1 μ1 V kd X lean1 en, TB n γ γ1 μ μ1 nl p f lean tick stp V kd X lean1 en ∧ JR γ1 μ1 nl p f lean1 (tick + stp) stp en := by
  obtain ⟨hL, hM, h6, h0, h4, h5⟩ := h
  have ht := h0 rfl
  obtain ⟨γ1, μ1, V, kd, X, lean1, en, hT⟩ := tick_both n hn hL hM (by omega) hs1 hs2
  obtain ⟨b1, b2, b3, b4, b5, b6, b7, b8, b9, b10, b11, b12, b13, b14⟩ := id hT
  exact ⟨γ1, μ1, V, kd, X, lean1, en, hT, LL_eng b3 b4 hL, b5, b6, fun e => by rw [b8] at e; exact enD_0 e, by rw [b8]; exact enD_le _ _ _ _, by omega⟩
theorem TB_CG {n : Nat} {γ γ1 : CS} {μ μ1 : MS} {nl p f lean tick stp : Nat} {V kd : Nat → Nat} {X lean1 en : Nat} (h : TB n γ γ1 μ μ1 nl p f lean tick stp V kd X lean1 en) : CG γ γ1 := CG_2 h.2.2.1 h.2.2.2.2.2.2.2.2.2.2.2.2.2.2.1
/-- the class runs to a tick in m steps -/
def RT (n : Nat) (γ : CS) (T : Nat) (γ1 : CS) (m : Nat) : Prop := ∀ i k, i + m ≤ 9999 → m < k → lc_X2_runTo_2 n k γ (nI T) (nI i) = some (0, γ1)
theorem RT_stop {n : Nat} {γ : CS} {T tk en : Nat} (h5 : γ.1 31 5 = nI tk) (h6 : γ.1 31 6 = nI en) (htk : tk < 2 ^ 31) (hen : en < 2 ^ 31) (h : T ≤ tk ∨ en ≠ 0) : RT n γ T γ 0 := by
  intro i k hi hk
  obtain ⟨k, rfl⟩ : ∃ k', k = k' + 1 := ⟨k - 1, by omega⟩
  show bc_X2_runTo_2 n (lc_X2_runTo_2 n k) γ (nI T) (nI i) = _
  unfold bc_X2_runTo_2
  by_cases c : i = 9999
  · subst c; exact if_t (by decide) rfl
  · refine if_f (nI_ge (b := 9999) (by omega) (by omega)) ?_
    by_cases c2 : nI T ≤ γ.1 31 5
    · exact if_t c2 rfl
    · refine if_f c2 (if_f ?_ rfl)
      rw [h6]
      rcases h with h | h
      · exact absurd (by rw [h5]; exact nI_le h htk) c2
      · exact nI_ne0 (by omega) hen
theorem RT_step {n : Nat} {γ γ1 γ2 : CS} {T tk m : Nat} (h5 : γ.1 31 5 = nI tk) (h6 : γ.1 31 6 = 0) (htk : tk < T) (hT : T < 2 ^ 31) (ha : fc_X2_advance n γ = some (0, γ1)) (h : RT n γ1 T γ2 m) : RT n γ T γ2 (m + 1) := by
  intro i k hi hk
  obtain ⟨k, rfl⟩ : ∃ k', k = k' + 1 := ⟨k - 1, by omega⟩
  show bc_X2_runTo_2 n (lc_X2_runTo_2 n k) γ (nI T) (nI i) = _
  unfold bc_X2_runTo_2
  exact if_f (nI_ge (b := 9999) (by omega) (by omega)) (if_f (by rw [h5]; exact nI_ge htk hT) (if_t h6 (bd_g ha (sq_r (nI_1 i) (h (i + 1) k (by omega) (by omega))))))
theorem RT_run {n : Nat} {γ γ1 : CS} {T m : Nat} (hm : m ≤ 9999) (hn : m < n) (h : RT n γ T γ1 m) : fc_X2_runTo n γ (nI T) = some (0, γ1) := by
  unfold fc_X2_runTo
  exact sq_g (h 0 n (by omega) hn)
/-- to the end, in both -/
theorem run_all (n : Nat) (hn : 21 ≤ n) {nl p f stp : Nat} (hs1 : 1 ≤ stp) (hs2 : stp ≤ 10) : ∀ (m : Nat) (γ : CS) (μ : MS) (lean tick en k : Nat), JR γ μ nl p f lean tick stp en → μ.1 0 35 = nI en → 9999 ≤ tick + m → m < k → ∃ γ1 μ1 lean1 tick1 en1 m1, m1 ≤ m ∧ RT n γ 9999 γ1 m1 ∧ lm_lastsOn_5 n k μ (nI stp) = some (nI tick1, μ1) ∧ JR γ1 μ1 nl p f lean1 tick1 stp en1 ∧ μ1.1 0 35 = nI en1 ∧ en1 ≠ 0 ∧ CG γ γ1 ∧ ME μ μ1 := by
  intro m
  induction m with
  | zero =>
    intro γ μ lean tick en k hJ h35 hm hk
    obtain ⟨k, rfl⟩ : ∃ k', k = k' + 1 := ⟨k - 1, by omega⟩
    have hen : en ≠ 0 := fun e => by have := hJ.2.2.2.1 e; omega
    have h4 := hJ.2.2.2.2.1
    refine ⟨γ, μ, lean, tick, en, 0, Nat.le_refl _, RT_stop (JR_c5 hJ) hJ.2.2.1 (by have := hJ.2.2.2.2.2; omega) (by omega) (Or.inr hen), ?_, hJ, h35, hen, CG.rf γ, ME.rf μ⟩
    show bm_lastsOn_5 n (lm_lastsOn_5 n k) μ (nI stp) = _
    unfold bm_lastsOn_5
    exact if_f (by rw [h35]; exact nI_ne0 (by omega) (by omega)) (by rw [JR_m29 hJ])
  | succ m ih =>
    intro γ μ lean tick en k hJ h35 hm hk
    obtain ⟨k, rfl⟩ : ∃ k', k = k' + 1 := ⟨k - 1, by omega⟩
    have h4 := hJ.2.2.2.2.1
    by_cases hen : en = 0
    · subst hen
      have htk := hJ.2.2.2.1 rfl
      obtain ⟨γ1, μ1, V, kd, X, lean1, en1, hT, hJ1⟩ := JR_step n hn hJ hs1 hs2
      obtain ⟨γ2, μ2, lean2, tick2, en2, m2, r0, r1, r2, r3, r4, r5, r6, r7⟩ := ih γ1 (mp μ1 0 35 (nI en1)) lean1 (tick + stp) en1 k (JR_35 hJ1 _) (by rw [mp_1, if_pos ⟨rfl, rfl⟩]) (by omega) (by omega)
      refine ⟨γ2, μ2, lean2, tick2, en2, m2 + 1, by omega, RT_step (JR_c5 hJ) hJ.2.2.1 (by omega) (by omega) hT.1 r1, ?_, r3, r4, r5, CG.tr (TB_CG hT) r6, ME.tr hT.2.2.2.1 (ME.tr (ME_mp0 (by omega) _) r7)⟩
      show bm_lastsOn_5 n (lm_lastsOn_5 n k) μ (nI stp) = _
      unfold bm_lastsOn_5
      exact if_t h35 (bd_g hT.2.1 (sq_g r2))
    · refine ⟨γ, μ, lean, tick, en, 0, by omega, RT_stop (JR_c5 hJ) hJ.2.2.1 (by have := hJ.2.2.2.2.2; omega) (by omega) (Or.inr hen), ?_, hJ, h35, hen, CG.rf γ, ME.rf μ⟩
      show bm_lastsOn_5 n (lm_lastsOn_5 n k) μ (nI stp) = _
      unfold bm_lastsOn_5
      exact if_f (by rw [h35]; exact nI_ne0 (by omega) (by omega)) (by rw [JR_m29 hJ])
/-- the class runs to its end; the reference lasts -/
theorem last_both (n : Nat) (hn : 10000 ≤ n) {γ : CS} {μ : MS} {nl p f lean tick stp : Nat} (hs1 : 1 ≤ stp) (hs2 : stp ≤ 10) (hJ : JR γ μ nl p f lean tick stp 0) : ∃ γ1 μ1 tick1 en1, fc_X2_runTo n γ 9999 = some (0, γ1) ∧ fm_lastsOn n μ (nI stp) = some (nI tick1, μ1) ∧ γ1.1 31 5 = nI tick1 ∧ tick1 ≤ 10008 ∧ γ1.1 31 6 = nI en1 ∧ μ1.1 0 35 = nI en1 ∧ en1 ≤ 4 ∧ CG γ γ1 ∧ ME μ μ1 := by
  obtain ⟨γ1, μ1, lean1, tick1, en1, m1, r0, r1, r2, r3, r4, r5, r6, r7⟩ := run_all n (by omega) hs1 hs2 9999 γ (mp μ 0 35 0) lean tick 0 n (JR_35 hJ 0) (by rw [mp_1, if_pos ⟨rfl, rfl⟩]; rfl) (by omega) (by omega)
  refine ⟨γ1, μ1, tick1, en1, RT_run r0 (by omega) r1, ?_, JR_c5 r3, r3.2.2.2.2.2, r3.2.2.1, r4, r3.2.2.2.2.1, r6, ME.tr (ME_mp0 (by omega) _) r7⟩
  unfold fm_lastsOn
  exact sq_g r2
