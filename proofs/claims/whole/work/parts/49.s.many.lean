/-! longest, draws, bestFor -/
def OKE (γ0 : CS) (μ0 : MS) (F : Option (Int32 × CS)) (G : Option (Int32 × MS)) : Prop := ∃ (r : Int32) (γ1 : CS) (μ1 : MS), F = some (r, γ1) ∧ G = some (r, μ1) ∧ EN γ0 μ0 γ1 μ1
theorem OKE_cm {γ0 : CS} {μ0 : MS} {F F1 : Option (Int32 × CS)} {G G1 : Option (Int32 × MS)} (e : F = F1) (g : G = G1) (h : OKE γ0 μ0 F1 G1) : OKE γ0 μ0 F G := by subst e; subst g; exact h
theorem OKE_ret {γ0 : CS} {μ0 : MS} {r r1 : Int32} {γ : CS} {μ : MS} (e : r = r1) (H : EN γ0 μ0 γ μ) : OKE γ0 μ0 (some (r, γ)) (some (r1, μ)) := by subst e; exact ⟨r, γ, μ, rfl, rfl, H⟩
theorem OK_E {γ0 : CS} {μ0 : MS} {F : Option (Int32 × CS)} {G : Option (Int32 × MS)} (H : Rl γ0 μ0) (h : OKE γ0 μ0 F G) : OK F G := by
  obtain ⟨r, γ1, μ1, h1, h2, h3⟩ := h
  exact ⟨r, γ1, μ1, h1, h2, EN_Rl h3 H⟩
theorem OK_Eb {γ0 : CS} {μ0 : MS} {F : Option (Int32 × CS)} {G : Option (Int32 × MS)} (H : Rl γ0 μ0) (h : OKE γ0 μ0 F G) : OK (bd F (fun r s => some (r, s))) (bd G (fun r s => some (r, s))) := by
  obtain ⟨r, γ1, μ1, h1, h2, h3⟩ := h
  exact ⟨r, γ1, μ1, bd_g h1 rfl, bd_g h2 rfl, EN_Rl h3 H⟩
theorem plate_at (n : Nat) {γ : CS} {μ : MS} {np nl ng i : Nat} (HB : RBn γ 5 (live μ) np nl ng) (hi : i < np) : ∃ q w d e h t : Nat, fc_X0_plateAt n γ (nI i) = some (some q, γ) ∧ PLr γ 5 (live μ) i q w d e h t := by
  have hnp := HB.1.1
  obtain ⟨q, w, d, e, h, t, hP⟩ := HB.2.2.2.2.2.1 i hi
  exact ⟨q, w, d, e, h, t, if_f (nI_pos (by omega)) (if_f (by rw [show γ.1 5 8 = nI np from HB.2.1.1]; exact nI_ge hi (by omega)) (if_f (nI_ge (b := 6) (by omega) (by omega)) (ck_g (ib_nI (by omega) (by omega)) (sq_r (x1 := some q) (by rw [nI_clamp (by omega)]; exact hP.1) rfl)))), hP⟩
theorem plate_no (n : Nat) {γ : CS} {μ : MS} {np nl ng i : Nat} (HB : RBn γ 5 (live μ) np nl ng) (hi : np ≤ i) (h : i < 2 ^ 31) : fc_X0_plateAt n γ (nI i) = some (none, γ) :=
  if_f (nI_pos h) (if_t (by rw [show γ.1 5 8 = nI np from HB.2.1.1]; exact nI_le hi h) rfl)
theorem long_tail (n : Nat) {γ : CS} {μ : MS} {np nl ng : Nat} (HB : RBn γ 5 (live μ) np nl ng) (x1 x2 x3 b c : Int32) : ∀ m i k, i + m = 6 → np ≤ i → m < k → lc_X7_longest_59 n k γ x1 x2 x3 b c (nI i) = some (b, γ) := by
  intro m
  induction m with
  | zero =>
    intro i k hi hn hk
    obtain ⟨k, rfl⟩ : ∃ k', k = k' + 1 := ⟨k - 1, by omega⟩
    exact if_t (nI_le (a := 6) (by omega) (by omega)) rfl
  | succ m ih =>
    intro i k hi hn hk
    obtain ⟨k, rfl⟩ : ∃ k', k = k' + 1 := ⟨k - 1, by omega⟩
    exact if_f (nI_ge (b := 6) (by omega) (by omega)) (bd_g (plate_no n HB hn (by omega)) (oc_gn rfl (sq_r (nI_1 i) (ih (i + 1) k (by omega) (by omega) (by omega)))))
theorem long_loop (n : Nat) (hn : 10000 ≤ n) {γ0 : CS} {μ0 : MS} {np nl ng : Nat} (HB : RBn γ0 5 (live μ0) np nl ng) {l f : Nat} (hl : l ≤ 9000) (hf : f < 4) (x1 : Int32) : ∀ m i k γ μ b c1 c2, i + m = np → 6 - i < k → EN γ0 μ0 γ μ → ((b = -9 ∧ c1 = -1 ∧ c2 = 0) ∨ ∃ bb mm : Nat, b = nI bb ∧ bb < 6 ∧ c1 = nI mm ∧ c2 = nI mm ∧ mm ≤ 10008) → OKE γ0 μ0 (lc_X7_longest_59 n k γ x1 (nI l) (nI f) b c1 (nI i)) (lm_longest_48 n k μ x1 (nI l) (nI f) b c2 (nI i)) := by
  have hnp := HB.1.1
  intro m
  induction m with
  | zero =>
    intro i k γ μ b c1 c2 hi hk hE hR
    have HB1 := EN_HB hE HB
    refine OKE_cm (long_tail n HB1 x1 (nI l) (nI f) b c1 (6 - i) i k (by omega) (by omega) (by omega)) ?_ (OKE_ret rfl hE)
    obtain ⟨k, rfl⟩ : ∃ k', k = k' + 1 := ⟨k - 1, by omega⟩
    exact if_t (by rw [show μ.1 0 11 = nI np from HB1.2.1.2]; exact nI_le (by omega) (by omega)) rfl
  | succ m ih =>
    intro i k γ μ b c1 c2 hi hk hE hR
    have HB1 := EN_HB hE HB
    obtain ⟨k, rfl⟩ : ∃ k', k = k' + 1 := ⟨k - 1, by omega⟩
    obtain ⟨q, w, d, e, h, t, hq, hP⟩ := plate_at n HB1 (show i < np by omega)
    have ew : γ.1 q 0 = nI w := hP.2.2.2.1.1
    have em : μ.1 3 i = nI w := hP.2.2.2.2.1.1
    have ec : Int32.toNatClampNeg (nI i) = i := nI_clamp (by omega)
    refine OKE_cm (show lc_X7_longest_59 n (k + 1) γ x1 (nI l) (nI f) b c1 (nI i) = _ from if_f (nI_ge (b := 6) (by omega) (by omega)) (bd_g hq (oc_gs rfl (ck_g hP.2.1 rfl)))) (show lm_longest_48 n (k + 1) μ x1 (nI l) (nI f) b c2 (nI i) = _ from if_f (by rw [show μ.1 0 11 = nI np from HB1.2.1.2]; exact nI_ge (by omega) (by omega)) (ck_g (ib_nI (by omega) (by omega)) (sq_r (x1 := nI w) (by rw [ec]; exact em) rfl))) ?_
    by_cases c0 : x1 < nI w
    · exact OKE_cm (if_t (by rw [ew]; exact c0) (sq_r (nI_1 i) rfl)) (if_f (gt_nle c0) (sq_r (nI_1 i) rfl)) (ih (i + 1) k γ μ b c1 c2 (by omega) (by omega) hE hR)
    · obtain ⟨γ1, μ1, tk, en, r1, r2, r3, r4, r5, r6, r7⟩ := ticks_both n hn HB1 hP (by omega) hl hf
      have hE1 := EN.tr hE r7
      refine OKE_cm (if_f (by rw [ew]; exact c0) (bd_g r1 rfl)) (if_t (nlt_ge c0) (bd_g r2 rfl)) ?_
      unfold bm_longest_96
      rcases hR with ⟨rfl, rfl, rfl⟩ | ⟨bb, mm, rfl, hbb, rfl, rfl, hmm⟩
      · refine OKE_cm (if_f ?_ (sq_r (nI_1 i) rfl)) (if_t (by decide) (sq_r (nI_1 i) rfl)) (ih (i + 1) k γ1 μ1 (nI i) (nI tk) (nI tk) (by omega) (by omega) hE1 (Or.inr ⟨i, tk, rfl, by omega, rfl, rfl, r3⟩))
        have e1 : (-1 : Int32).toInt = -1 := by decide
        rw [Int32.le_iff_toInt_le, nI_toInt (by omega)]
        omega
      · by_cases c4 : mm < tk
        · exact OKE_cm (if_f (nI_ge c4 (by omega)) (sq_r (nI_1 i) rfl)) (if_f (nI_pos (by omega)) (if_t (nI_lt c4 (by omega)) (sq_r (nI_1 i) rfl))) (ih (i + 1) k γ1 μ1 (nI i) (nI tk) (nI tk) (by omega) (by omega) hE1 (Or.inr ⟨i, tk, rfl, by omega, rfl, rfl, r3⟩))
        · exact OKE_cm (if_t (nI_le (by omega) (by omega)) (sq_r (nI_1 i) rfl)) (if_f (nI_pos (by omega)) (if_f (nI_nlt (by omega) (by omega)) (sq_r (nI_1 i) rfl))) (ih (i + 1) k γ1 μ1 (nI bb) (nI mm) (nI mm) (by omega) (by omega) hE1 (Or.inr ⟨bb, mm, rfl, hbb, rfl, rfl, hmm⟩))
theorem s_longest (n : Nat) (hn : 10000 ≤ n) : st_longest n Rl := by
  intro γ μ x1 x2 x3 H
  show OK _ _
  obtain ⟨np, nl, ng, HB⟩ := H.2.2.2.1
  have hnp := HB.1.1
  unfold fc_X7_longest fm_longest
  rcases floor_both n γ μ x3 with ⟨e1, e2⟩ | ⟨f, hf, rfl, e1, e2⟩
  · exact OK_cm (bd_g e1 (if_t rfl rfl)) (bd_g e2 (if_t rfl rfl)) (OK_1 H)
  refine OK_cm (bd_g e1 (if_f one_ne rfl)) (bd_g e2 (if_f one_ne rfl)) ?_
  rw [bnds]
  by_cases c0 : x1 < 0
  · exact OK_cm (if_t c0 rfl) (bd_g (if_t c0 rfl) (if_f (by decide) rfl)) (OK_4 H)
  refine OK_cm (if_f c0 rfl) rfl ?_
  by_cases c1 : ¬ 0 ≤ x2
  · exact OK_cm (if_f c1 rfl) (bd_g (if_f c0 (if_f c1 rfl)) (if_f (by decide) rfl)) (OK_4 H)
  have c1 := Decidable.not_not.mp c1
  refine OK_cm (if_t c1 rfl) rfl ?_
  by_cases c2 : 999 < x1
  · exact OK_cm (if_t c2 rfl) (bd_g (if_f c0 (if_t c1 (if_t c2 rfl))) (if_f (by decide) rfl)) (OK_6 H)
  refine OK_cm (if_f c2 rfl) rfl ?_
  by_cases c3 : ¬ x2 ≤ 9000
  · exact OK_cm (if_f c3 rfl) (bd_g (if_f c0 (if_t c1 (if_f c2 (if_f c3 rfl)))) (if_f (by decide) rfl)) (OK_6 H)
  have c3 := Decidable.not_not.mp c3
  obtain ⟨l, hl, rfl⟩ := in0 (b := 9000) (by omega) c1 c3
  exact OK_E H (OKE_cm (if_t c3 (sq_g (sq_g (sq_g rfl)))) (bd_g (if_f c0 (if_t c1 (if_f c2 (if_t c3 rfl)))) (if_t rfl (sq_g (sq_g (sq_g rfl))))) (long_loop n hn HB hl hf x1 np 0 n γ μ (-9) (-1) 0 (by omega) (by omega) (EN.rf γ μ) (Or.inl ⟨rfl, rfl, rfl⟩)))
/-- a lean that is drawn -/
theorem draw_nI (y : Int32) : ∃ l : Nat, 1 ≤ l ∧ l ≤ 9000 ∧ 1 + (((y &&& 2147483647) / 65536) - ((y &&& 2147483647) / 65536) / 9000 * 9000) = nI l := by
  have h0 : ∃ j : Nat, j < 2 ^ 31 ∧ (y &&& 2147483647) = nI j := by
    refine nI_of ?_
    have hb : (y &&& 2147483647).toBitVec.msb = false := by
      rw [Int32.toBitVec_and, BitVec.msb_and]
      have : (2147483647 : Int32).toBitVec.msb = false := by decide
      rw [this, Bool.and_false]
    intro h
    rw [Int32.lt_iff_toInt_lt] at h
    have e0 : (0 : Int32).toInt = 0 := by decide
    have h2 : (y &&& 2147483647).toBitVec.toInt < 0 := by
      have : (y &&& 2147483647).toInt = (y &&& 2147483647).toBitVec.toInt := rfl
      omega
    rw [BitVec.toInt_neg_iff] at h2
    rw [BitVec.msb_eq_false_iff_two_mul_lt] at hb
    omega
  obtain ⟨j, hj, e⟩ := h0
  refine ⟨1 + j / 65536 % 9000, by omega, by omega, ?_⟩
  have e1 : nI j / 65536 = nI (j / 65536) := nI_div (b := 65536) hj (by omega)
  have e2 : nI (j / 65536) / 9000 = nI (j / 65536 / 9000) := nI_div (b := 9000) (by omega) (by omega)
  have e3 : nI (j / 65536 / 9000) * 9000 = nI (j / 65536 / 9000 * 9000) := nI_mul (b := 9000) (by omega) (by omega) (by omega)
  rw [e, e1, e2, e3, nI_sub (by omega) (by omega)]
  show nI 1 + nI (j / 65536 - j / 65536 / 9000 * 9000) = _
  rw [nI_add]
  congr 1
  omega
theorem draw_loop (n : Nat) (hn : 10000 ≤ n) {γ0 : CS} {μ0 : MS} {np nl ng : Nat} (HB : RBn γ0 5 (live μ0) np nl ng) {p q w d e h t f N : Nat} (hP : PLr γ0 5 (live μ0) p q w d e h t) (hp : p < 6) (hf : f < 4) (hN : N ≤ 30) (mm x6 : Int32) : ∀ m i k γ μ c z, i + m = N → m < k → EN γ0 μ0 γ μ → OKE γ0 μ0 (lc_X7_draws_91 n k γ (nI f) (nI N) mm x6 q z c (nI i)) (lm_draws_97 n k μ (nI p) (nI f) (nI N) mm x6 c z (nI i)) := by
  intro m
  induction m with
  | zero =>
    intro i k γ μ c z hi hk hE
    obtain ⟨k, rfl⟩ : ∃ k', k = k' + 1 := ⟨k - 1, by omega⟩
    exact OKE_cm (if_t (nI_le (by omega) (by omega)) rfl) (if_t (nI_le (by omega) (by omega)) rfl) (OKE_ret rfl hE)
  | succ m ih =>
    intro i k γ μ c z hi hk hE
    obtain ⟨k, rfl⟩ : ∃ k', k = k' + 1 := ⟨k - 1, by omega⟩
    obtain ⟨l, hl1, hl, el⟩ := draw_nI (z * 1103515245 + 12345)
    obtain ⟨γ1, μ1, tk, en, r1, r2, r3, r4, r5, r6, r7⟩ := ticks_both n hn (EN_HB hE HB) (EN_PL hE hp hP) hp hl hf
    have hE1 := EN.tr hE r7
    refine OKE_cm (show lc_X7_draws_91 n (k + 1) γ (nI f) (nI N) mm x6 q z c (nI i) = _ from if_f (nI_ge (by omega) (by omega)) (sq_g (sq_g (sq_r el (bd_g r1 rfl))))) (show lm_draws_97 n (k + 1) μ (nI p) (nI f) (nI N) mm x6 c z (nI i) = _ from if_f (nI_ge (by omega) (by omega)) (sq_g (sq_g (bd_g (by rw [el]; exact r2) rfl)))) ?_
    unfold bm_draws_168 bm_draws_164
    by_cases c6 : x6 = 0
    · refine OKE_cm (if_t c6 rfl) (if_t c6 rfl) ?_
      by_cases c7 : nI tk < mm
      · exact OKE_cm (if_t c7 (sq_r (nI_1 i) rfl)) (if_t c7 (sq_r (Int32.add_zero c) (sq_r (nI_1 i) rfl))) (ih (i + 1) k γ1 μ1 c _ (by omega) (by omega) hE1)
      · exact OKE_cm (if_f c7 (sq_g (sq_r (nI_1 i) rfl))) (if_f c7 (sq_g (sq_r (nI_1 i) rfl))) (ih (i + 1) k γ1 μ1 (c + 1) _ (by omega) (by omega) hE1)
    · refine OKE_cm (if_f c6 rfl) (if_f c6 rfl) ?_
      by_cases c7 : nI en = 2
      · exact OKE_cm (if_t (by rw [r4]; exact c7) (sq_g (sq_r (nI_1 i) rfl))) (if_t (by rw [r5]; exact c7) (sq_g (sq_r (nI_1 i) rfl))) (ih (i + 1) k γ1 μ1 (c + 1) _ (by omega) (by omega) hE1)
      · exact OKE_cm (if_f (by rw [r4]; exact c7) (sq_r (nI_1 i) rfl)) (if_f (by rw [r5]; exact c7) (sq_r (Int32.add_zero c) (sq_r (nI_1 i) rfl))) (ih (i + 1) k γ1 μ1 c _ (by omega) (by omega) hE1)
theorem s_draws (n : Nat) (hn : 10000 ≤ n) : st_draws n Rl := by
  intro γ μ x1 x2 x3 x4 x5 x6 H
  show OK _ _
  obtain ⟨np, nl, ng, HB⟩ := H.2.2.2.1
  have hnp := HB.1.1
  unfold fc_X7_draws fm_draws bm_draws_48 bm_draws_67 bm_draws_73
  rcases plate_both n HB x1 with ⟨e1, e2⟩ | ⟨i, q, w, d, e, h, t, rfl, hi, e1, e2, hP⟩
  · exact OK_cm (bd_g e1 (oc_gn rfl rfl)) (bd_g e2 (if_t rfl rfl)) (OK_1 H)
  refine OK_cm (bd_g e1 (oc_gs rfl rfl)) (bd_g e2 (if_f one_ne rfl)) ?_
  rcases floor_both n γ μ x2 with ⟨e1, e2⟩ | ⟨f, hf, rfl, e1, e2⟩
  · exact OK_cm (bd_g e1 (if_t rfl rfl)) (bd_g e2 (if_t rfl rfl)) (OK_1 H)
  refine OK_cm (bd_g e1 (if_f one_ne rfl)) (bd_g e2 (if_f one_ne rfl)) ?_
  rcases zo_both n γ μ x6 with ⟨g1, g2⟩ | ⟨hx2, g1, g2⟩
  · exact OK_cm (bd_g g1 (if_t rfl rfl)) (bd_g g2 (if_t rfl rfl)) (OK_2 H)
  refine OK_cm (bd_g g1 (if_f one_ne rfl)) (bd_g g2 (if_f one_ne rfl)) ?_
  by_cases c0 : x3 < 1
  · exact OK_cm (if_t c0 rfl) (if_t c0 (if_f (by decide) rfl)) (OK_4 H)
  refine OK_cm (if_f c0 rfl) (if_f c0 rfl) ?_
  by_cases c1 : ¬ 0 ≤ x5
  · exact OK_cm (if_f c1 rfl) (if_f c1 (if_f (by decide) rfl)) (OK_4 H)
  have c1 := Decidable.not_not.mp c1
  refine OK_cm (if_t c1 rfl) (if_t c1 rfl) ?_
  by_cases c2 : 30 < x3
  · exact OK_cm (if_t c2 rfl) (if_t c2 (if_f (by decide) rfl)) (OK_6 H)
  refine OK_cm (if_f c2 rfl) (if_f c2 rfl) ?_
  by_cases c3 : ¬ x5 ≤ 9999
  · exact OK_cm (if_f c3 rfl) (if_f c3 (if_f (by decide) rfl)) (OK_6 H)
  have c3 := Decidable.not_not.mp c3
  obtain ⟨N, hN1, hN, rfl⟩ := in1 (a := 1) (b := 30) (by omega) (by omega) (nlt_ge c0) (nlt_ge c2)
  exact OK_E H (OKE_cm (if_t c3 (sq_g (sq_g rfl))) (if_t c3 (if_t rfl (sq_g (sq_g rfl)))) (draw_loop n hn HB hP (by omega) hf hN x5 x6 N 0 n γ μ 0 x4 (by omega) (by omega) (EN.rf γ μ)))
