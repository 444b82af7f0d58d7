section
/-! the loss that rules: rules, passes -/
def rlr (V : Nat → Nat) : Nat → Nat → Int32 → Nat → Int32
  | 0, _, b, _ => b
  | m + 1, i, b, c => if V i ≤ c then rlr V m (i + 1) b c else rlr V m (i + 1) (nI i) (V i)
theorem rlr_s (V : Nat → Nat) (m i : Nat) (b : Int32) (c : Nat) : rlr V (m + 1) i b c = if V i ≤ c then rlr V m (i + 1) b c else rlr V m (i + 1) (nI i) (V i) := rfl
theorem rlr_0 {V : Nat → Nat} : ∀ (m i : Nat) (b : Int32) (c : Nat), (∀ j, i ≤ j → V j = 0) → rlr V m i b c = b := by
  intro m
  induction m with
  | zero => intro i b c h; rfl
  | succ m ih =>
    intro i b c h
    rw [rlr_s]
    exact if_t (by rw [h i (Nat.le_refl _)]; omega) (ih (i + 1) b c (fun j hj => h j (by omega)))
theorem rlr_tail {V : Nat → Nat} {nl : Nat} (h : ∀ j, nl ≤ j → V j = 0) (t : Nat) : ∀ (m i : Nat) (b : Int32) (c : Nat), i + m = nl → rlr V (m + t) i b c = rlr V m i b c := by
  intro m
  induction m with
  | zero => intro i b c hi; rw [Nat.zero_add]; exact rlr_0 t i b c (fun j hj => h j (by omega))
  | succ m ih =>
    intro i b c hi
    rw [show m + 1 + t = (m + t) + 1 by omega, rlr_s, rlr_s, ih (i + 1) b c (by omega), ih (i + 1) (nI i) (V i) (by omega)]
theorem rlr_val {V : Nat → Nat} : ∀ (m i : Nat) (b : Int32) (c : Nat), i + m ≤ 8 → (b = -9 ∨ ∃ j : Nat, j < 8 ∧ b = nI j) → (rlr V m i b c = -9 ∨ ∃ j : Nat, j < 8 ∧ rlr V m i b c = nI j) := by
  intro m
  induction m with
  | zero => intro i b c _ hb; exact hb
  | succ m ih =>
    intro i b c hi hb
    rw [rlr_s]
    by_cases h : V i ≤ c
    · rw [if_pos h]; exact ih (i + 1) b c (by omega) hb
    · rw [if_neg h]; exact ih (i + 1) (nI i) (V i) (by omega) (Or.inr ⟨i, by omega, rfl⟩)
theorem ruler_C (n : Nat) (γ : CS) {V : Nat → Nat} (hV : ∀ j, j < 8 → γ.1 33 j = nI (V j)) (h9 : ∀ j, V j ≤ 9999) : ∀ (m i k : Nat) (b : Int32) (c : Nat), i + m = 8 → m < k → c ≤ 9999 → lc_X2_ruler_7 n k γ b (nI c) (nI i) = some (rlr V m i b c, γ) := by
  intro m
  induction m with
  | zero =>
    intro i k b c hi hk hc
    obtain ⟨k, rfl⟩ : ∃ k', k = k' + 1 := ⟨k - 1, by omega⟩
    exact if_t (nI_le (a := 8) (by omega) (by omega)) rfl
  | succ m ih =>
    intro i k b c hi hk hc
    obtain ⟨k, rfl⟩ : ∃ k', k = k' + 1 := ⟨k - 1, by omega⟩
    have hv : γ.1 33 (Int32.toNatClampNeg (nI i)) = nI (V i) := by rw [nI_clamp (by omega)]; exact hV i (by omega)
    have hib : ib (nI i) 8 = true := ib_nI (by omega) (by omega)
    have hvi := h9 i
    rw [rlr_s]
    show bc_X2_ruler_7 n (lc_X2_ruler_7 n k) γ b (nI c) (nI i) = _
    unfold bc_X2_ruler_7
    refine if_f (nI_ge (b := 8) (by omega) (by omega)) (ck_g hib (sq_r hv ?_))
    by_cases h : V i ≤ c
    · rw [if_pos h]
      exact if_t (nI_le h (by omega)) (sq_r (nI_1 i) (ih (i + 1) k b c (by omega) (by omega) hc))
    · rw [if_neg h]
      exact if_f (nI_ge (by omega) (by omega)) (ck_g hib (sq_r hv (sq_r (nI_1 i) (ih (i + 1) k (nI i) (V i) (by omega) (by omega) (by omega)))))
theorem ruler_M (n : Nat) (hn : 21 ≤ n) {μ : MS} {nl p f lean tick d t : Nat} {V kd : Nat → Nat} (hnl : nl ≤ 8) (h21 : μ.1 0 21 = nI nl) (hd : d ≤ 99) (ht : t ≤ 9) (hl : lean ≤ 9000) (hI : IN μ p f lean tick d t) (hst : ∀ i, i < nl → stepM μ p f lean d t V kd i) (hb : ∀ i, i < nl → ¬ bitI (μ.1 0 28) i = 0) (h9 : ∀ j, V j ≤ 9999) : ∀ (m i k : Nat) (μ1 : MS) (b : Int32) (c : Nat), i + m = nl → m < k → c ≤ 9999 → E18 μ μ1 → ∃ μ2, lm_ruler_7 n k μ1 b (nI c) (nI i) = some (rlr V m i b c, μ2) ∧ E18 μ μ2 := by
  intro m
  induction m with
  | zero =>
    intro i k μ1 b c hi hk hc hE
    obtain ⟨k, rfl⟩ : ∃ k', k = k' + 1 := ⟨k - 1, by omega⟩
    exact ⟨μ1, if_t (by rw [hE.2.2 21 (by decide), h21]; exact nI_le (by omega) (by omega)) rfl, hE⟩
  | succ m ih =>
    intro i k μ1 b c hi hk hc hE
    obtain ⟨k, rfl⟩ : ∃ k', k = k' + 1 := ⟨k - 1, by omega⟩
    obtain ⟨fr, cs, s1, s2, s3, s4, s5, s6⟩ := hst i (by omega)
    have hv : tvM μ p f lean d t (μ.1 10 i) (μ.1 11 i) (μ.1 12 i) cs = nI (V i) := by
      rcases s6 with h | h
      · exact absurd h.1 (hb i (by omega))
      · exact h.2
    obtain ⟨g1, hg⟩ := take_at n hE (μ.1 10 i) (μ.1 11 i) (μ.1 12 i) hn (by omega) hI hl hd ht s2 s3 s1
    rw [hv] at hg
    have hci : Int32.toNatClampNeg (nI i) = i := nI_clamp (by omega)
    have r10 : μ1.1 10 (Int32.toNatClampNeg (nI i)) = μ.1 10 i := by rw [hci, hE.2.1 10 (by decide) (by decide) (by decide)]
    have r11 : μ1.1 11 (Int32.toNatClampNeg (nI i)) = μ.1 11 i := by rw [hci, hE.2.1 11 (by decide) (by decide) (by decide)]
    have r12 : μ1.1 12 (Int32.toNatClampNeg (nI i)) = μ.1 12 i := by rw [hci, hE.2.1 12 (by decide) (by decide) (by decide)]
    have hib : ib (nI i) 9 = true := ib_nI (by omega) (by omega)
    have hnl1 : ¬ μ1.1 0 21 ≤ nI i := by rw [hE.2.2 21 (by decide), h21]; exact nI_ge (by omega) (by omega)
    have hvi := h9 i
    rw [rlr_s]
    by_cases h : V i ≤ c
    · rw [if_pos h]
      obtain ⟨μ2, r1, r2⟩ := ih (i + 1) k (mpr μ1 17 g1) b c (by omega) (by omega) hc (E18_17 hE g1)
      exact ⟨μ2, if_f hnl1 (ck_g hib (sq_r r10 (ck_g hib (sq_r r11 (ck_g hib (sq_r r12 (bd_g hg (if_f (nI_nlt h (by omega)) (sq_r (nI_1 i) r1))))))))), r2⟩
    · rw [if_neg h]
      obtain ⟨μ2, r1, r2⟩ := ih (i + 1) k (mpr μ1 17 g1) (nI i) (V i) (by omega) (by omega) (by omega) (E18_17 hE g1)
      exact ⟨μ2, if_f hnl1 (ck_g hib (sq_r r10 (ck_g hib (sq_r r11 (ck_g hib (sq_r r12 (bd_g hg (if_t (nI_lt (by omega) (by omega)) (sq_r (nI_1 i) r1))))))))), r2⟩
theorem MR_E18 {γ : CS} {μ μ1 : MS} {nl p f l tk stp : Nat} (hE : E18 μ μ1) (h : MR γ μ nl p f l tk stp) : MR γ μ1 nl p f l tk stp := by
  obtain ⟨d, t, hh, a1, a2, a3, a4, a5, a6, a7⟩ := h
  have em : ∀ k, k ≠ 34 → μ1.1 0 k = μ.1 0 k := hE.2.2
  have er : ∀ a, a ≠ 0 → a ≠ 17 → a ≠ 18 → μ1.1 a = μ.1 a := hE.2.1
  refine ⟨d, t, hh, a1, a2, E18_IN hE a3, by rw [er 3 (by decide) (by decide) (by decide), er 5 (by decide) (by decide) (by decide), er 8 (by decide) (by decide) (by decide), er 9 (by decide) (by decide) (by decide)]; exact a4, by rw [em _ (by decide), er 6 (by decide) (by decide) (by decide)]; exact a5, by rw [em _ (by decide)]; exact a6, ?_⟩
  rw [em _ (by decide), em _ (by decide)]
  exact a7
theorem JR_E18 {γ : CS} {μ μ1 : MS} {nl p f l tk stp en : Nat} (hE : E18 μ μ1) (h : JR γ μ nl p f l tk stp en) : JR γ μ1 nl p f l tk stp en := ⟨LL_eng (CE.rf γ) (E18_ME hE) h.1, MR_E18 hE h.2.1, h.2.2⟩
/-- the class has gone on one tick; both say which loss ruled it -/
theorem rul_both (n : Nat) (hn : 21 ≤ n) {γ : CS} {μ : MS} {nl p f lean tick : Nat} (hJ : JR γ μ nl p f lean tick 1 0) (hb : ∀ i, i < nl → ¬ bitI (μ.1 0 28) i = 0) : ∃ γ1 r μ1, fc_X2_advance n γ = some (0, γ1) ∧ fc_X2_ruler n γ1 = some (r, γ1) ∧ fm_ruler n μ = some (r, μ1) ∧ E18 μ μ1 ∧ CG γ γ1 ∧ (r = -9 ∨ ∃ j : Nat, j < 8 ∧ r = nI j) := by
  obtain ⟨γ1, μ1, V, kd, X, lean1, en1, hT, hJ1⟩ := JR_step n hn hJ (by omega) (by omega)
  have hCG := TB_CG hT
  obtain ⟨t1, t2, t3, t4, t5, t6, t7, t8, t9, t10, t11, t12, t13, t14, t15, d, t, u1, u2, u3, u4, u5⟩ := hT
  have hnl := hJ.1.1
  obtain ⟨μ2, r1, r2⟩ := ruler_M n hn hnl hJ.1.2.2.1 u1 u2 u3 u4 u5 hb t11 nl 0 n μ (-9) 0 (by omega) (by omega) (by omega) (E18.rf μ)
  refine ⟨γ1, rlr V 8 0 (-9) 0, μ2, t1, ruler_C n γ1 t9 t11 8 0 n (-9) 0 (by omega) (by omega) (by omega), ?_, r2, hCG, rlr_val 8 0 (-9) 0 (by omega) (Or.inl rfl)⟩
  have e8 : rlr V 8 0 (-9) 0 = rlr V nl 0 (-9) 0 := by
    have := rlr_tail t12 (8 - nl) nl 0 (-9) 0 (by omega)
    rw [show nl + (8 - nl) = 8 by omega] at this
    exact this
  rw [e8]
  exact r1
theorem OKE_tr {γ0 γ1 : CS} {μ0 μ1 : MS} {F : Option (Int32 × CS)} {G : Option (Int32 × MS)} (hE : EN γ0 μ0 γ1 μ1) (h : OKE γ1 μ1 F G) : OKE γ0 μ0 F G := by
  obtain ⟨r, γ2, μ2, h1, h2, h3⟩ := h
  exact ⟨r, γ2, μ2, h1, h2, EN.tr hE h3⟩
def rlTail (n : Nat) (γ : CS) : Option (Int32 × CS) := if ((γ.1 31 6) = 0) then (bd (fc_X2_advance n γ) (fun _ σ10 => bd (fc_X2_ruler n σ10) (fun r11 σ12 => some (r11, σ12)))) else (some ((-9), γ))
theorem rules_loop (n : Nat) (hn : 21 ≤ n) {nl p f T : Nat} (hT : T ≤ 9999) : ∀ (m j k : Nat) (γ : CS) (μ : MS) (lean : Nat), j + m = T → m < k → JR γ μ nl p f lean j 1 0 → (∀ i, i < nl → ¬ bitI (μ.1 0 28) i = 0) → ∃ γ1 m1, m1 ≤ m ∧ RT n γ T γ1 m1 ∧ OKE γ μ (rlTail n γ1) (lm_rules_39 n k μ (nI T) (nI j)) := by
  intro m
  induction m with
  | zero =>
    intro j k γ μ lean hj hk hJ hb
    obtain ⟨k, rfl⟩ : ∃ k', k = k' + 1 := ⟨k - 1, by omega⟩
    obtain ⟨γ1, r, μ1, u1, u2, u3, u4, u5, u6⟩ := rul_both n hn hJ hb
    refine ⟨γ, 0, Nat.le_refl _, RT_stop (JR_c5 hJ) hJ.2.2.1 (by omega) (by omega) (Or.inl (by omega)), ?_⟩
    exact OKE_cm (if_t hJ.2.2.1 (bd_g u1 (bd_g u2 rfl))) (if_t (nI_le (by omega) (by omega)) (bd_g u3 rfl)) (OKE_ret rfl ⟨u5, E18_ME u4⟩)
  | succ m ih =>
    intro j k γ μ lean hj hk hJ hb
    obtain ⟨k, rfl⟩ : ∃ k', k = k' + 1 := ⟨k - 1, by omega⟩
    obtain ⟨γ1, μ1, V, kd, X, lean1, en1, hT1, hJ1⟩ := JR_step n hn hJ (by omega) (by omega)
    have hEN : EN γ μ γ1 μ1 := ⟨TB_CG hT1, hT1.2.2.2.1⟩
    have h28 : μ1.1 0 28 = μ.1 0 28 := hT1.2.2.2.2.2.2.2.2.2.2.2.2.1 28 (by decide) (by decide) (by decide)
    have hen := hJ1.2.2.2.2.1
    by_cases he : en1 = 0
    · subst he
      obtain ⟨γ2, m2, v1, v2, v3⟩ := ih (j + 1) k γ1 μ1 lean1 (by omega) (by omega) hJ1 (by rw [h28]; exact hb)
      refine ⟨γ2, m2 + 1, by omega, RT_step (JR_c5 hJ) hJ.2.2.1 (by omega) (by omega) hT1.1 v2, ?_⟩
      exact OKE_cm rfl (if_f (nI_ge (by omega) (by omega)) (bd_g hT1.2.1 (if_t rfl (sq_r (nI_1 j) rfl)))) (OKE_tr hEN v3)
    · refine ⟨γ1, 0 + 1, by omega, RT_step (JR_c5 hJ) hJ.2.2.1 (by omega) (by omega) hT1.1 (RT_stop (JR_c5 hJ1) hJ1.2.2.1 (by omega) (by omega) (Or.inr he)), ?_⟩
      have hne : ¬ nI en1 = 0 := nI_ne0 (by omega) (by omega)
      exact OKE_cm (if_f (by rw [hJ1.2.2.1]; exact hne) rfl) (if_f (nI_ge (by omega) (by omega)) (bd_g hT1.2.1 (if_f hne rfl))) (OKE_ret rfl hEN)
theorem mbg_28 (μ : MS) (p l f : Nat) (set : Int32) : (mbg μ p l f set).1 0 28 = set := by simp [mbg, mp_1]
theorem all_set {nl : Nat} (h : nl ≤ 8) {i : Nat} (hi : i < nl) : ¬ bitI (allI nl) i = 0 := fun e => m1_bits (i := i) (by omega) ((all_bits h hi).mpr e)
theorem s_rules (n : Nat) (hn : 10000 ≤ n) : st_rules n Rl := by
  intro γ μ x1 H
  show OK _ _
  obtain ⟨np, nl, ng, HB⟩ := H.2.2.2.1
  unfold fc_X7_rules fm_rules
  rcases sp_both HB with ⟨e1, e2⟩ | ⟨e1, e2, e3⟩
  · exact OK_cm (if_t e1 rfl) (if_t e2 rfl) (OK_3 H)
  refine OK_cm (if_f e1 rfl) (if_f e2 rfl) ?_
  by_cases c1 : 0 ≤ x1
  · by_cases c2 : x1 ≤ 9999
    · obtain ⟨T, hT, rfl⟩ := in0 (b := 9999) (by omega) c1 c2
      obtain ⟨pn, fl, f0, ln, tk, en, tc, q, w, d, e, h, t, hpn, hS⟩ := SP_of HB e3
      obtain ⟨γb, g1, g2, g3, g4⟩ := spin_both n HB hpn hS
      obtain ⟨γ1, m1, v1, v2, v3⟩ := rules_loop n (by omega) hT T 0 n γb (mbg μ pn fl f0 (allI nl)) fl (by omega) (by omega) g4 (by rw [mbg_28]; exact fun i hi => all_set HB.1.2.1 hi)
      exact OK_E H (OKE_cm (if_t c1 (if_t c2 (bd_g g1 (bd_g (RT_run (by omega) (by omega) v2) rfl)))) (bd_g (bnd_in n μ c1 c2) (if_t rfl (bd_g g2 (sq_g rfl)))) (OKE_tr ⟨g3, mbg_ME μ pn fl f0 (allI nl)⟩ v3))
    · exact OK_cm (if_t c1 (if_f c2 rfl)) (bd_g (bnd_hi n μ c1 c2) (if_f (by decide) rfl)) (OK_6 H)
  · exact OK_cm (if_f c1 rfl) (bd_g (bnd_lo n μ c1) (if_f (by decide) rfl)) (OK_4 H)
theorem passes_loop (n : Nat) (hn : 21 ≤ n) {nl p f : Nat} (first : Int32) : ∀ (m tick k : Nat) (γ γ1 : CS) (μ : MS) (lean : Nat), tick + m = 9999 → m < k → JR γ μ nl p f lean tick 1 0 → (∀ i, i < nl → ¬ bitI (μ.1 0 28) i = 0) → fc_X2_advance n γ = some (0, γ1) → OKE γ μ (lc_X7_passes_42 n k γ1 first (nI (tick + 1))) (lm_passes_23 n k μ first) := by
  intro m
  induction m with
  | zero =>
    intro tick k γ γ1 μ lean hj hk hJ hb ha
    have := hJ.2.2.2.1 rfl
    omega
  | succ m ih =>
    intro tick k γ γa μ lean hj hk hJ hb ha
    obtain ⟨k, rfl⟩ : ∃ k', k = k' + 1 := ⟨k - 1, by omega⟩
    obtain ⟨γ1, μ1, V, kd, X, lean1, en1, hT1, hJ1⟩ := JR_step n hn hJ (by omega) (by omega)
    have hγ : γa = γ1 := by
      have := ha.symm.trans hT1.1
      exact (Prod.mk.inj (Option.some.inj this)).2
    rw [hγ]
    show OKE γ μ _ (bm_passes_23 n (lm_passes_23 n k) μ first)
    unfold bm_passes_23
    have hEN : EN γ μ γ1 μ1 := ⟨TB_CG hT1, hT1.2.2.2.1⟩
    have h28 : μ1.1 0 28 = μ.1 0 28 := hT1.2.2.2.2.2.2.2.2.2.2.2.2.1 28 (by decide) (by decide) (by decide)
    have hen := hJ1.2.2.2.2.1
    by_cases he : en1 = 0
    · subst he
      have ht := hJ1.2.2.2.1 rfl
      obtain ⟨γ2, r, μ2, u1, u2, u3, u4, u5, u6⟩ := rul_both n hn hJ1 (by rw [h28]; exact hb)
      have hJ2 := JR_E18 u4 hJ1
      have hEN2 : EN γ μ γ2 μ2 := EN.tr hEN ⟨u5, E18_ME u4⟩
      have hEN1 : EN γ μ γ1 μ2 := EN.tr hEN ⟨CG.rf γ1, E18_ME u4⟩
      have hb2 : ∀ i, i < nl → ¬ bitI (μ2.1 0 28) i = 0 := by rw [u4.2.2 28 (by decide), h28]; exact hb
      have hrec := OKE_tr hEN1 (ih (tick + 1) k γ1 γ2 μ2 lean1 (by omega) (by omega) hJ2 hb2 u1)
      refine OKE_cm (if_f (nI_ge (b := 9999) (by omega) (by omega)) (if_t hJ1.2.2.1 (bd_g u1 (bd_g u2 rfl)))) (bd_g hT1.2.1 (if_t rfl (bd_g u3 rfl))) ?_
      rcases u6 with rfl | ⟨j, hj8, rfl⟩
      · exact OKE_cm (if_t rfl (sq_r (nI_1 _) rfl)) (if_t (by decide) rfl) hrec
      · have hne : ¬ nI j = -9 := fun h => by
          have := congrArg Int32.toInt h
          rw [nI_toInt (by omega)] at this
          have e1 : (-9 : Int32).toInt = -9 := by decide
          omega
        refine OKE_cm (if_f hne rfl) (if_f (nI_pos (by omega)) rfl) ?_
        by_cases hf : nI j = first
        · exact OKE_cm (if_t hf (sq_r (nI_1 _) rfl)) (if_t hf rfl) hrec
        · exact OKE_cm (if_f hf rfl) (if_f hf rfl) (OKE_ret (JR_m29 hJ2).symm hEN2)
    · have hne : ¬ nI en1 = 0 := nI_ne0 (by omega) (by omega)
      have e1 : lc_X7_passes_42 n (k + 1) γ1 first (nI (tick + 1)) = some (-9, γ1) := by
        by_cases c : 9999 ≤ tick + 1
        · exact if_t (nI_le (a := 9999) c (by omega)) rfl
        · exact if_f (nI_ge (b := 9999) (by omega) (by omega)) (if_f (by rw [hJ1.2.2.1]; exact hne) rfl)
      exact OKE_cm e1 (bd_g hT1.2.1 (if_f hne rfl)) (OKE_ret rfl hEN)
theorem s_passes (n : Nat) (hn : 10000 ≤ n) : st_passes n Rl := by
  intro γ μ H
  show OK _ _
  obtain ⟨np, nl, ng, HB⟩ := H.2.2.2.1
  unfold fc_X7_passes fm_passes
  rcases sp_both HB with ⟨e1, e2⟩ | ⟨e1, e2, e3⟩
  · exact OK_cm (if_t e1 rfl) (if_t e2 rfl) (OK_3 H)
  obtain ⟨pn, fl, f0, ln, tk, en, tc, q, w, d, e, h, t, hpn, hS⟩ := SP_of HB e3
  obtain ⟨γb, g1, g2, g3, g4⟩ := spin_both n HB hpn hS
  have hb0 : ∀ i, i < nl → ¬ bitI ((mbg μ pn fl f0 (allI nl)).1 0 28) i = 0 := by rw [mbg_28]; exact fun i hi => all_set HB.1.2.1 hi
  obtain ⟨γ1, r, μ1, u1, u2, u3, u4, u5, u6⟩ := rul_both n (by omega) g4 hb0
  have hJ1 := JR_E18 u4 g4
  exact OK_E H (OKE_cm (if_f e1 (bd_g g1 (bd_g u1 (bd_g u2 (sq_g rfl))))) (if_f e2 (bd_g g2 (bd_g u3 rfl))) (OKE_tr ⟨g3, ME.tr (mbg_ME μ pn fl f0 (allI nl)) (E18_ME u4)⟩ (passes_loop n (by omega) r 9999 0 n γb γ1 μ1 fl (by omega) (by omega) hJ1 (by rw [u4.2.2 28 (by decide)]; exact hb0) u1)))
end
