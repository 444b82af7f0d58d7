/-! firstOff, supposed, ear, stagger -/
theorem mis_both (n : Nat) (hn : 10000 ≤ n) {γa γ : CS} {μa μ : MS} {nl p f l len sl : Nat} (hR : RW γa μa len sl) (x1 : Int32) (hx : ¬ x1 = 0) (hE : EN γa μa γ μ) (hJ : JR γ μ nl p f l 0 1 0) : OKE γa μa (fc_X7_firstMisfit n γ) (fm_offs n μ x1) := by
  unfold fc_X7_firstMisfit fm_offs
  have hlen := hR.1
  exact OKE_cm (sq_g rfl) (sq_g (sq_g (sq_g rfl))) (misfit_loop n hn hR x1 hx len 0 n γ γ (mp μ 0 35 0) 0 l 0 0 0 (by omega) (by omega) hE.1 ⟨hE.1, ME.tr hE.2 (ME_mp0 (by omega) _)⟩ (JR_35 hJ 0) (by rw [mp_1, if_pos ⟨rfl, rfl⟩]; rfl) (by omega) (by omega) (Lag.rf n γ 0))
theorem inall_both (n : Nat) (hn : 10000 ≤ n) {γa γ : CS} {μa μ : MS} {nl p f l len sl : Nat} (hR : RW γa μa len sl) (x1 : Int32) (hx : x1 = 0) (hE : EN γa μa γ μ) (hJ : JR γ μ nl p f l 0 1 0) : OKE γa μa (lc_X7_offInAll_41 n n γ 0 0) (fm_offs n μ x1) := by
  unfold fm_offs
  have hlen := hR.1
  exact OKE_cm rfl (sq_g (sq_g (sq_g rfl))) (inall_loop n hn hR x1 hx len 0 n γ γ (mp μ 0 35 0) 0 l 0 0 0 (by omega) (by omega) hE.1 ⟨hE.1, ME.tr hE.2 (ME_mp0 (by omega) _)⟩ (JR_35 hJ 0) (by rw [mp_1, if_pos ⟨rfl, rfl⟩]; rfl) (by omega) (by omega) (Lag.rf n γ 0))
theorem OKE_bb {γ0 : CS} {μ0 : MS} {F : Option (Int32 × CS)} {G : Option (Int32 × MS)} (h : OKE γ0 μ0 F G) : OKE γ0 μ0 (bd F (fun r s => some (r, s))) (bd G (fun r s => some (r, s))) := by
  obtain ⟨r, γ1, μ1, h1, h2, h3⟩ := h
  exact ⟨r, γ1, μ1, bd_g h1 rfl, bd_g h2 rfl, h3⟩
/-- a set tried, in both -/
theorem set_try (n : Nat) (hn : 10000 ≤ n) {γ0 γ : CS} {μ0 μ : MS} {np nl ng len sl : Nat} (HB0 : RBn γ0 5 (live μ0) np nl ng) (hR : RW γ0 μ0 len sl) {pn fl f0 ln tk en tc q w d e h t : Nat} (hpn : pn < np) (hS0 : SP γ0 μ0 pn fl f0 ln tk en tc q w d e h t) (hE : EN γ0 μ0 γ μ) (x : Int32) : ∃ γb r γ1 μ1, fc_X7_beginAgain n γ x = some (0, γb) ∧ fc_X7_firstMisfit n γb = some (r, γ1) ∧ fm_firstOffOf n μ x = some (r, μ1) ∧ EN γ0 μ0 γ1 μ1 := by
  obtain ⟨γb, g1, g2, g3, g4⟩ := again_both n (EN_HB hE HB0) hpn (EN_SP hE hS0) x x (fun i hi => Iff.rfl)
  obtain ⟨r, γ1, μ1, h1, h2, h3⟩ := mis_both n hn hR 1 one_ne (EN.tr hE ⟨g3, mbg_ME μ pn fl f0 x⟩) g4
  refine ⟨γb, r, γ1, μ1, g1, h1, ?_, h3⟩
  unfold fm_firstOffOf
  exact bd_g g2 (bd_g h2 rfl)
theorem s_firstOff (n : Nat) (hn : 10000 ≤ n) : st_firstOff n Rl := by
  intro γ μ x1 H
  show OK _ _
  obtain ⟨np, nl, ng, HB⟩ := H.2.2.2.1
  unfold fc_X7_firstOff fm_firstOff
  rcases set_both n HB x1 with ⟨e1, e2⟩ | ⟨-, e1, e2⟩
  · exact OK_cm (bd_g e1 (if_t rfl rfl)) (bd_g e2 (if_t rfl rfl)) (OK_1 H)
  refine OK_cm (bd_g e1 (if_f one_ne rfl)) (bd_g e2 (if_f one_ne rfl)) ?_
  rcases sp_both HB with ⟨e1, e2⟩ | ⟨e1, e2, e3⟩
  · exact OK_cm (if_t e1 rfl) (if_t e2 rfl) (OK_3 H)
  obtain ⟨pn, fl, f0, ln, tk, en, tc, q, w, d, e, h, t, hpn, hS⟩ := SP_of HB e3
  obtain ⟨len, sl, hR⟩ := RW_of HB
  obtain ⟨γb, r, γ1, μ1, u1, u2, u3, u4⟩ := set_try n hn HB hR hpn hS (EN.rf γ μ) x1
  exact OK_cm (if_f e1 (bd_g u1 (bd_g u2 rfl))) (if_f e2 (bd_g u3 rfl)) (OK_ret rfl (EN_Rl u4 H))
/-! bits -/
def bsum (x : Int32) : Nat → Nat → Int32 → Int32
  | 0, _, c => c
  | m + 1, j, c => bsum x m (j + 1) (c + ((x >>> (nI j &&& 31)) &&& 1))
theorem bits_loop (n : Nat) (μ : MS) (x : Int32) : ∀ m j k c, j + m = 31 → m < k → lm_bits_4 n k μ x c (nI j) = some (bsum x m j c, μ) := by
  intro m
  induction m with
  | zero =>
    intro j k c hj hk
    obtain ⟨k, rfl⟩ : ∃ k', k = k' + 1 := ⟨k - 1, by omega⟩
    exact if_t (nI_le (a := 31) (by omega) (by omega)) rfl
  | succ m ih =>
    intro j k c hj hk
    obtain ⟨k, rfl⟩ : ∃ k', k = k' + 1 := ⟨k - 1, by omega⟩
    exact if_f (nI_ge (b := 31) (by omega) (by omega)) (sq_g (sq_r (nI_1 j) (ih (j + 1) k _ (by omega) (by omega))))
def bcnt (x : Int32) : Int32 := (fc_J6_bitCount_0f7a4 0 gam0 x).elim 0 (fun r => r.1)
theorem bcnt_eq (n : Nat) (γ : CS) (x : Int32) : fc_J6_bitCount_0f7a4 n γ x = some (bcnt x, γ) := rfl
theorem bits_all : ∀ s, s < 256 → bcnt (nI s) = bsum (nI s) 31 0 0 := by decide +kernel
theorem bits_both (n : Nat) (hn : 32 ≤ n) (γ : CS) (μ : MS) {s : Nat} (hs : s < 256) : ∃ r, fc_J6_bitCount_0f7a4 n γ (nI s) = some (r, γ) ∧ fm_bits n μ (nI s) = some (r, μ) := by
  refine ⟨bcnt (nI s), bcnt_eq n γ _, ?_⟩
  rw [bits_all s hs]
  unfold fm_bits
  exact sq_g (sq_g (bits_loop n μ (nI s) 31 0 n 0 (by omega) (by omega)))
theorem set_in (n : Nat) {γ : CS} {μ : MS} {np nl ng i : Nat} (HB : RBn γ 5 (live μ) np nl ng) (hi : i < 2 ^ nl) : fc_X7_isSet n γ (nI i) = some (1, γ) := by
  have hnl := HB.1.2.1
  have h256 : 2 ^ nl ≤ 256 := Nat.pow_le_pow_right (by omega) hnl
  exact if_f (nI_pos (by omega)) (if_f (by rw [show γ.1 5 9 = nI nl from HB.2.2.1.1, shl_nl hnl]; exact nI_ge hi (by omega)) rfl)
theorem set_out (n : Nat) {γ : CS} {μ : MS} {np nl ng i : Nat} (HB : RBn γ 5 (live μ) np nl ng) (hi : 2 ^ nl ≤ i) (h : i < 2 ^ 31) : fc_X7_isSet n γ (nI i) = some (0, γ) := by
  have hnl := HB.1.2.1
  exact if_f (nI_pos h) (if_t (by rw [show γ.1 5 9 = nI nl from HB.2.2.1.1, shl_nl hnl]; exact nI_le hi h) rfl)
theorem supp_loop (n : Nat) (hn : 10000 ≤ n) {γ0 : CS} {μ0 : MS} {np nl ng len sl : Nat} (HB0 : RBn γ0 5 (live μ0) np nl ng) (hR : RW γ0 μ0 len sl) {pn fl f0 ln tk en tc q w d e h t : Nat} (hpn : pn < np) (hS0 : SP γ0 μ0 pn fl f0 ln tk en tc q w d e h t) (x1 : Int32) : ∀ m i k γ μ c b, i + m = 2 ^ nl → m < k → EN γ0 μ0 γ μ → (b = -9 ∨ ∃ bb, bb < 256 ∧ b = nI bb) → OKE γ0 μ0 (lc_X7_supposed_42 n k γ x1 c b (nI i)) (lm_supposed_38 n k μ x1 c b (nI i)) := by
  have hnl := HB0.1.2.1
  have h256 : 2 ^ nl ≤ 256 := Nat.pow_le_pow_right (by omega) hnl
  have h1 : 1 ≤ 2 ^ nl := Nat.one_le_two_pow
  intro m
  induction m with
  | zero =>
    intro i k γ μ c b hi hk hE hb
    obtain ⟨k, rfl⟩ : ∃ k', k = k' + 1 := ⟨k - 1, by omega⟩
    have HB := EN_HB hE HB0
    have hA := fm_all_eq n hnl (show μ.1 0 21 = nI nl from HB.2.2.1.2)
    have eC : lc_X7_supposed_42 n (k + 1) γ x1 c b (nI i) = bc_X7_supposed_104 n γ x1 c b := by
      by_cases c5 : i = 256
      · exact if_t (nI_le (a := 256) (by omega) (by omega)) rfl
      · exact if_f (nI_ge (b := 256) (by omega) (by omega)) (bd_g (set_out n HB (by omega) (by omega)) (if_t rfl rfl))
    show OKE γ0 μ0 _ (bm_supposed_38 n (lm_supposed_38 n k) μ x1 c b (nI i))
    unfold bm_supposed_38
    refine OKE_cm eC (bd_g hA (if_t (show allI nl < nI i from nI_lt (by omega) (by omega)) rfl)) ?_
    unfold bc_X7_supposed_104
    by_cases cx : x1 = 0
    · exact OKE_cm (if_t cx rfl) (if_t cx rfl) (OKE_ret rfl hE)
    · exact OKE_cm (if_f cx rfl) (if_f cx rfl) (OKE_ret rfl hE)
  | succ m ih =>
    intro i k γ μ c b hi hk hE hb
    obtain ⟨k, rfl⟩ : ∃ k', k = k' + 1 := ⟨k - 1, by omega⟩
    have HB := EN_HB hE HB0
    have hA := fm_all_eq n hnl (show μ.1 0 21 = nI nl from HB.2.2.1.2)
    obtain ⟨γb, r, γ1, μ1, u1, u2, u3, u4⟩ := set_try n hn HB0 hR hpn hS0 hE (nI i)
    show OKE γ0 μ0 _ (bm_supposed_38 n (lm_supposed_38 n k) μ x1 c b (nI i))
    unfold bm_supposed_38
    refine OKE_cm (show lc_X7_supposed_42 n (k + 1) γ x1 c b (nI i) = _ from if_f (nI_ge (b := 256) (by omega) (by omega)) (bd_g (set_in n HB (by omega)) (if_f one_ne (bd_g u1 (bd_g u2 rfl))))) (bd_g hA (if_f (show ¬ allI nl < nI i from nI_nlt (by omega) (by omega)) (bd_g u3 rfl))) ?_
    by_cases c9 : r = -9
    · refine OKE_cm (if_t c9 (sq_g rfl)) (if_t c9 (sq_g rfl)) ?_
      rcases hb with rfl | ⟨bb, hbb, rfl⟩
      · exact OKE_cm (if_t rfl (sq_r (nI_1 i) rfl)) (if_t (by decide) (sq_r (nI_1 i) rfl)) (ih (i + 1) k γ1 μ1 (c + 1) (nI i) (by omega) (by omega) u4 (Or.inr ⟨i, by omega, rfl⟩))
      · obtain ⟨r1, v1, v2⟩ := bits_both n (by omega) γ1 μ1 (show i < 256 by omega)
        obtain ⟨r2, v3, v4⟩ := bits_both n (by omega) γ1 μ1 hbb
        have hne : ¬ nI bb = -9 := fun h => by
          have := congrArg Int32.toInt h
          rw [nI_toInt (by omega)] at this
          have e1 : (-9 : Int32).toInt = -9 := by decide
          omega
        refine OKE_cm (if_f hne (bd_g v1 (bd_g v3 rfl))) (if_f (nI_pos (by omega)) (bd_g v2 (bd_g v4 rfl))) ?_
        by_cases cr : r2 ≤ r1
        · exact OKE_cm (if_t cr (sq_r (nI_1 i) rfl)) (if_t cr (sq_r (nI_1 i) rfl)) (ih (i + 1) k γ1 μ1 (c + 1) (nI bb) (by omega) (by omega) u4 (Or.inr ⟨bb, hbb, rfl⟩))
        · exact OKE_cm (if_f cr (sq_r (nI_1 i) rfl)) (if_f cr (sq_r (nI_1 i) rfl)) (ih (i + 1) k γ1 μ1 (c + 1) (nI i) (by omega) (by omega) u4 (Or.inr ⟨i, by omega, rfl⟩))
    · exact OKE_cm (if_f c9 (sq_r (nI_1 i) rfl)) (if_f c9 (sq_r (nI_1 i) rfl)) (ih (i + 1) k γ1 μ1 c b (by omega) (by omega) u4 hb)
theorem s_supposed (n : Nat) (hn : 10000 ≤ n) : st_supposed n Rl := by
  intro γ μ x1 H
  show OK _ _
  obtain ⟨np, nl, ng, HB⟩ := H.2.2.2.1
  have h256 : 2 ^ nl ≤ 256 := Nat.pow_le_pow_right (by omega) HB.1.2.1
  unfold fc_X7_supposed fm_supposed
  rcases zo_both n γ μ x1 with ⟨g1, g2⟩ | ⟨hx2, g1, g2⟩
  · exact OK_cm (bd_g g1 (if_t rfl rfl)) (bd_g g2 (if_t rfl rfl)) (OK_2 H)
  refine OK_cm (bd_g g1 (if_f one_ne rfl)) (bd_g g2 (if_f one_ne rfl)) ?_
  rcases sp_both HB with ⟨e1, e2⟩ | ⟨e1, e2, e3⟩
  · exact OK_cm (if_t e1 rfl) (if_t e2 rfl) (OK_3 H)
  obtain ⟨pn, fl, f0, ln, tk, en, tc, q, w, d, e, h, t, hpn, hS⟩ := SP_of HB e3
  obtain ⟨len, sl, hR⟩ := RW_of HB
  exact OK_E H (OKE_cm (if_f e1 (sq_g (sq_g (sq_g rfl)))) (if_f e2 (sq_g (sq_g (sq_g rfl)))) (supp_loop n hn HB hR hpn hS x1 (2 ^ nl) 0 n γ μ 0 (-9) (by omega) (by omega) (EN.rf γ μ) (Or.inl rfl)))
/-! ear -/
theorem ear_tail (n : Nat) {γ : CS} {μ : MS} {np nl ng : Nat} (HB : RBn γ 5 (live μ) np nl ng) (x1 b c : Int32) (F : Option (Int32 × CS)) (hF : ∀ k, 1 ≤ k → lc_X7_ear_45 n k γ x1 b c 6 = F) : ∀ m i k, i + m = 6 → np ≤ i → m < k → lc_X7_ear_45 n k γ x1 b c (nI i) = F := by
  intro m
  induction m with
  | zero =>
    intro i k hi hn hk
    have : i = 6 := by omega
    subst this
    exact hF k (by omega)
  | succ m ih =>
    intro i k hi hn hk
    obtain ⟨k, rfl⟩ : ∃ k', k = k' + 1 := ⟨k - 1, by omega⟩
    exact if_f (nI_ge (b := 6) (by omega) (by omega)) (bd_g (plate_no n HB hn (by omega)) (oc_gn rfl (sq_r (nI_1 i) (ih (i + 1) k (by omega) (by omega) (by omega)))))
theorem ear_loop (n : Nat) (hn : 10000 ≤ n) {γ0 : CS} {μ0 : MS} {np nl ng len sl : Nat} (HB0 : RBn γ0 5 (live μ0) np nl ng) (hR : RW γ0 μ0 len sl) {pn fl f0 ln tk en tc q w d e h t : Nat} (hpn : pn < np) (hS0 : SP γ0 μ0 pn fl f0 ln tk en tc q w d e h t) (x1 : Int32) (hx : x1 = 0 ∨ x1 = 1 ∨ x1 = 2) : ∀ m i k γ μ b c1 c2, i + m = np → 6 - i < k → EN γ0 μ0 γ μ → ((i = 0 ∧ b = -9) ∨ ∃ bb : Nat, b = nI bb ∧ bb < 6 ∧ c1 = c2) → OKE γ0 μ0 (lc_X7_ear_45 n k γ x1 b c1 (nI i)) (lm_ear_38 n k μ x1 b c2 (nI i)) := by
  have hnp := HB0.1.1
  intro m
  induction m with
  | zero =>
    intro i k γ μ b c1 c2 hi hk hE hb
    have HB := EN_HB hE HB0
    have hR1 := RW_EN hE hR
    rcases hb with ⟨rfl, _⟩ | ⟨bb, rfl, hbb, rfl⟩
    · omega
    have hne : ¬ nI bb = -9 := fun h => by
      have := congrArg Int32.toInt h
      rw [nI_toInt (by omega)] at this
      have e1 : (-9 : Int32).toInt = -9 := by decide
      omega
    obtain ⟨r, r1, r2⟩ := many_both n (by omega) HB.2.2.2.2.2.2.2.2.2.2.2
    obtain ⟨k', rfl⟩ : ∃ k', k = k' + 1 := ⟨k - 1, by omega⟩
    have hMn : ∀ G, (if x1 = 0 then some (nI bb, μ) else if x1 = 2 then some (c1, μ) else bd (fm_heardMany n μ) (fun r4 σ5 => if c1 ≤ ((μ.1 0 49) * r4) then some (0, σ5) else some (1, σ5))) = G → lm_ear_38 n (k' + 1) μ x1 (nI bb) c1 (nI i) = G := fun G hG => if_t (by rw [show μ.1 0 11 = nI np from HB.2.1.2]; exact nI_le (by omega) (by omega)) hG
    rcases hx with hx | hx | hx
    · have hx1 : ¬ x1 = 1 := by rw [hx]; decide
      exact OKE_cm (ear_tail n HB x1 (nI bb) c1 (some (nI bb, γ)) (fun k hk => by
        obtain ⟨k, rfl⟩ : ∃ k', k = k' + 1 := ⟨k - 1, by omega⟩
        exact if_f hx1 (if_t hx rfl)) (6 - i) i _ (by omega) (by omega) (by omega)) (hMn _ (if_t hx rfl)) (OKE_ret rfl hE)
    · have hx0 : ¬ x1 = 0 := by rw [hx]; decide
      have hx2 : ¬ x1 = 2 := by rw [hx]; decide
      have eS : γ.1 16 2 = μ.1 0 49 := hR1.2.2.2.2.1.trans hR1.2.2.2.2.2.1.symm
      by_cases cc : c1 ≤ μ.1 0 49 * r
      · exact OKE_cm (ear_tail n HB x1 (nI bb) c1 (some (0, γ)) (fun k hk => by
          obtain ⟨k, rfl⟩ : ∃ k', k = k' + 1 := ⟨k - 1, by omega⟩
          exact if_t hx (if_f hne (bd_g r1 (if_t (by rw [eS]; exact cc) rfl)))) (6 - i) i _ (by omega) (by omega) (by omega)) (hMn _ (if_f hx0 (if_f hx2 (bd_g r2 (if_t cc rfl))))) (OKE_ret rfl hE)
      · exact OKE_cm (ear_tail n HB x1 (nI bb) c1 (some (1, γ)) (fun k hk => by
          obtain ⟨k, rfl⟩ : ∃ k', k = k' + 1 := ⟨k - 1, by omega⟩
          exact if_t hx (if_f hne (bd_g r1 (if_f (by rw [eS]; exact cc) rfl)))) (6 - i) i _ (by omega) (by omega) (by omega)) (hMn _ (if_f hx0 (if_f hx2 (bd_g r2 (if_f cc rfl))))) (OKE_ret rfl hE)
    · have hx0 : ¬ x1 = 0 := by rw [hx]; decide
      have hx1 : ¬ x1 = 1 := by rw [hx]; decide
      exact OKE_cm (ear_tail n HB x1 (nI bb) c1 (some (c1, γ)) (fun k hk => by
        obtain ⟨k, rfl⟩ : ∃ k', k = k' + 1 := ⟨k - 1, by omega⟩
        exact if_f hx1 (if_f hx0 rfl)) (6 - i) i _ (by omega) (by omega) (by omega)) (hMn _ (if_f hx0 (if_t hx rfl))) (OKE_ret rfl hE)
  | succ m ih =>
    intro i k γ μ b c1 c2 hi hk hE hb
    obtain ⟨k, rfl⟩ : ∃ k', k = k' + 1 := ⟨k - 1, by omega⟩
    have HB := EN_HB hE HB0
    have hA := fm_all_eq n HB.1.2.1 (show μ.1 0 21 = nI nl from HB.2.2.1.2)
    obtain ⟨s0, s1, s2, s3, s4, s5⟩ := EN_SP hE hS0
    obtain ⟨q', w', d', e', h', t', hq, hP⟩ := plate_at n HB (show i < np by omega)
    obtain ⟨γb, g1, g2, g3⟩ := begin_both n HB hP (show i < 6 by omega) s0.2.1 s0.2.2.1
    have hJ := g3 (allI nl) (fun j hj => all_bits HB.1.2.1 hj)
    obtain ⟨r, γ1, μ1, u1, u2, u3⟩ := inall_both n hn hR 0 rfl (EN.tr hE ⟨g2.1, mbg_ME μ i fl f0 (allI nl)⟩) hJ
    have eO : fc_X7_offInAll n γ q' = some (r, γ1) := by
      unfold fc_X7_offInAll
      rw [s3.1, s4.1]
      exact bd_g g1 (sq_g (sq_g u1))
    refine OKE_cm (show lc_X7_ear_45 n (k + 1) γ x1 b c1 (nI i) = _ from if_f (nI_ge (b := 6) (by omega) (by omega)) (bd_g hq (oc_gs rfl (bd_g eO rfl)))) (show lm_ear_38 n (k + 1) μ x1 b c2 (nI i) = _ from if_f (by rw [show μ.1 0 11 = nI np from HB.2.1.2]; exact nI_ge (by omega) (by omega)) (bd_g hA (bd_g (by rw [s3.2, s4.2]; exact begins_M n μ i fl f0 _) (bd_g u2 rfl)))) ?_
    unfold bc_X7_ear_88 bm_ear_85
    rcases hb with ⟨rfl, rfl⟩ | ⟨bb, rfl, hbb, rfl⟩
    · exact OKE_cm (if_t rfl (sq_r (nI_1 0) rfl)) (if_t (by decide) (sq_r (nI_1 0) rfl)) (ih (0 + 1) k γ1 μ1 (nI 0) r r (by omega) (by omega) u3 (Or.inr ⟨0, rfl, by omega, rfl⟩))
    · have hne : ¬ nI bb = -9 := fun h => by
        have := congrArg Int32.toInt h
        rw [nI_toInt (by omega)] at this
        have e1 : (-9 : Int32).toInt = -9 := by decide
        omega
      by_cases cc : c1 ≤ r
      · exact OKE_cm (if_f hne (if_t cc (sq_r (nI_1 i) rfl))) (if_f (nI_pos (by omega)) (if_f (ge_nlt cc) (sq_r (nI_1 i) rfl))) (ih (i + 1) k γ1 μ1 (nI bb) c1 c1 (by omega) (by omega) u3 (Or.inr ⟨bb, rfl, hbb, rfl⟩))
      · exact OKE_cm (if_f hne (if_f cc (sq_r (nI_1 i) rfl))) (if_f (nI_pos (by omega)) (if_t (nle_gt cc) (sq_r (nI_1 i) rfl))) (ih (i + 1) k γ1 μ1 (nI i) r r (by omega) (by omega) u3 (Or.inr ⟨i, rfl, by omega, rfl⟩))
theorem s_ear (n : Nat) (hn : 10000 ≤ n) : st_ear n Rl := by
  intro γ μ x1 H
  show OK _ _
  obtain ⟨np, nl, ng, HB⟩ := H.2.2.2.1
  have hnp := HB.1.1
  unfold fc_X7_ear fm_ear
  by_cases c0 : x1 < 0
  · exact OK_cm (if_t c0 rfl) (bd_g (if_t c0 rfl) (if_t rfl rfl)) (OK_2 H)
  by_cases c1 : ¬ x1 ≤ 2
  · exact OK_cm (if_f c0 (if_f c1 rfl)) (bd_g (if_f c0 (if_t (nle_gt c1) rfl)) (if_t rfl rfl)) (OK_2 H)
  have c1 := Decidable.not_not.mp c1
  refine OK_cm (if_f c0 (if_t c1 rfl)) (bd_g (if_f c0 (if_f (ge_nlt c1) rfl)) (if_f one_ne rfl)) ?_
  rcases sp_both HB with ⟨e1, e2⟩ | ⟨e1, e2, e3⟩
  · exact OK_cm (if_t e1 rfl) (if_t e2 rfl) (OK_3 H)
  obtain ⟨pn, fl, f0, ln, tk, en, tc, q, w, d, e, h, t, hpn, hS⟩ := SP_of HB e3
  obtain ⟨len, sl, hR⟩ := RW_of HB
  have hx : x1 = 0 ∨ x1 = 1 ∨ x1 = 2 := by
    obtain ⟨j, hj, rfl⟩ := in0 (b := 2) (by omega) (nlt_ge c0) c1
    rcases (show j = 0 ∨ j = 1 ∨ j = 2 by omega) with rfl | rfl | rfl
    · exact Or.inl rfl
    · exact Or.inr (Or.inl rfl)
    · exact Or.inr (Or.inr rfl)
  exact OK_E H (OKE_cm (if_f e1 (sq_g (sq_g (sq_g rfl)))) (if_f e2 (sq_g (sq_g (sq_g rfl)))) (ear_loop n hn HB hR hpn hS x1 hx np 0 n γ μ (-9) (-9) 0 (by omega) (by omega) (EN.rf γ μ) (Or.inl ⟨rfl, rfl⟩)))
/-! stagger -/
theorem MR_more {γ : CS} {μ : MS} {nl p f l tk stp i q mf : Nat} (h : MR γ μ nl p f l tk stp) (hi : i < nl) (hq : γ.2.2.1 7 i = some q) (hmf : mf ≤ 9999) : MR (cp (cpp γ 31 11 (some q)) 31 12 (nI mf)) (mp (mp μ 0 31 (nI i)) 0 32 (nI mf)) nl p f l tk stp := by
  obtain ⟨d, t, hh, a1, ⟨b1, b2, b3, b4, b5, b6, b7, b8⟩, ⟨c1, c2, c3, c4, c5, c6, c7, c8⟩, a4, a5, a6, a7⟩ := h
  have e32 : (cp (cpp γ 31 11 (some q)) 31 12 (nI mf)).1 32 = γ.1 32 := by rw [cp_ne _ _ _ _ (by decide), cpp_1]
  have e31 : ∀ k, k ≠ 12 → (cp (cpp γ 31 11 (some q)) 31 12 (nI mf)).1 31 k = γ.1 31 k := fun k hk => by rw [cp_1, if_neg (fun h => hk h.2), cpp_1]
  have em : ∀ k, k ≠ 31 → k ≠ 32 → (mp (mp μ 0 31 (nI i)) 0 32 (nI mf)).1 0 k = μ.1 0 k := fun k h1 h2 => by rw [mp_1, if_neg (fun h => h2 h.2), mp_1, if_neg (fun h => h1 h.2)]
  have er : ∀ a, a ≠ 0 → (mp (mp μ 0 31 (nI i)) 0 32 (nI mf)).1 a = μ.1 a := fun a ha => by rw [mp_ne _ _ _ _ ha, mp_ne _ _ _ _ ha]
  refine ⟨d, t, hh, a1, ⟨by rw [e31 _ (by decide)]; exact b1, by rw [e31 _ (by decide)]; exact b2, by rw [e31 _ (by decide)]; exact b3, by rw [e31 _ (by decide)]; exact b4, by rw [e32]; exact b5, by rw [e32]; exact b6, by rw [e32]; exact b7, by rw [e32]; exact b8⟩, ⟨by rw [em _ (by decide) (by decide)]; exact c1, by rw [em _ (by decide) (by decide)]; exact c2, by rw [em _ (by decide) (by decide)]; exact c3, by rw [em _ (by decide) (by decide)]; exact c4, by rw [er _ (by decide)]; exact c5, by rw [er _ (by decide)]; exact c6, c7, c8⟩, by rw [e32, er 3 (by decide), er 5 (by decide), er 8 (by decide), er 9 (by decide)]; exact a4, by rw [e31 _ (by decide), e31 _ (by decide), em _ (by decide) (by decide), er 6 (by decide)]; exact a5, by rw [e31 _ (by decide), em _ (by decide) (by decide)]; exact a6, Or.inr ⟨i, mf, q, hi, ?_, ?_, ?_, ?_, ?_, hmf⟩⟩
  · show va_up γ.2.2.1 31 (va_up (γ.2.2.1 31) 11 (some q)) 31 11 = some q
    rw [va_up_self, va_up_self]
  · show va_up γ.2.2.1 31 (va_up (γ.2.2.1 31) 11 (some q)) 7 i = some q
    rw [va_up_ne _ _ (by decide)]; exact hq
  · rw [mp_1, if_neg (by omega), mp_1, if_pos ⟨rfl, rfl⟩]
  · rw [cp_1, if_pos ⟨rfl, rfl⟩]
  · rw [mp_1, if_pos ⟨rfl, rfl⟩]
theorem stag_loop (n : Nat) (hn : 10000 ≤ n) {γ0 : CS} {μ0 : MS} {np nl ng len sl : Nat} (HB0 : RBn γ0 5 (live μ0) np nl ng) (hR : RW γ0 μ0 len sl) {pn fl f0 ln tk en tc q w d e h t : Nat} (hpn : pn < np) (hS0 : SP γ0 μ0 pn fl f0 ln tk en tc q w d e h t) {i qq : Nat} (hi : i < nl) (hq : γ0.2.2.1 7 i = some qq) (hqn : qq < γ0.2.2.2.2.2) : ∀ m j k γ μ, j + m = 100 → m < k → EN γ0 μ0 γ μ → OKE γ0 μ0 (lc_X7_stagger_41 n k γ qq (nI (10 * j))) (lm_stagger_30 n k μ (nI i) (nI (10 * j))) := by
  intro m
  induction m with
  | zero =>
    intro j k γ μ hj hk hE
    obtain ⟨k, rfl⟩ : ∃ k', k = k' + 1 := ⟨k - 1, by omega⟩
    exact OKE_cm (if_t (nI_lt (a := 990) (by omega) (by omega)) rfl) (if_t (nI_le (a := 1000) (by omega) (by omega)) rfl) (OKE_ret rfl hE)
  | succ m ih =>
    intro j k γ μ hj hk hE
    obtain ⟨k, rfl⟩ : ∃ k', k = k' + 1 := ⟨k - 1, by omega⟩
    obtain ⟨γb, g1, g2, g3, g4⟩ := spin_both n (EN_HB hE HB0) hpn (EN_SP hE hS0)
    have hCb : CG γ0 γb := CG.tr hE.1 g3
    have hqb : γb.2.2.1 7 i = some qq := by rw [hCb.1.2.1 7 (by decide)]; exact hq
    have hnb : qq < γb.2.2.2.2.2 := by rw [hCb.1.2.2.1]; exact hqn
    have hMR := MR_more g4.2.1 hi hqb (show 10 * j ≤ 9999 by omega)
    have hCc : CG γb (cp (cpp γb 31 11 (some qq)) 31 12 (nI (10 * j))) := ⟨CE.tr (CE_cpp _ _) (CE_cp (by omega) _ _), fun w => cwf_some hnb w⟩
    have hMc : ME (mbg μ pn fl f0 (allI nl)) (mp (mp (mbg μ pn fl f0 (allI nl)) 0 31 (nI i)) 0 32 (nI (10 * j))) := ME.tr (ME_mp0 (by omega) _) (ME_mp0 (by omega) _)
    have hJ : JR (cp (cpp γb 31 11 (some qq)) 31 12 (nI (10 * j))) (mp (mp (mbg μ pn fl f0 (allI nl)) 0 31 (nI i)) 0 32 (nI (10 * j))) nl pn f0 fl 0 1 0 := ⟨LL_eng hCc.1 hMc g4.1, hMR, by rw [cp_1, if_neg (by omega), cpp_1]; exact g4.2.2.1, by omega, by omega, by omega⟩
    obtain ⟨r, γ1, μ1, u1, u2, u3⟩ := mis_both n hn hR 1 one_ne (EN.tr hE ⟨CG.tr g3 hCc, ME.tr (mbg_ME μ pn fl f0 (allI nl)) hMc⟩) hJ
    refine OKE_cm (show lc_X7_stagger_41 n (k + 1) γ qq (nI (10 * j)) = _ from if_f (nI_nlt (a := 990) (by omega) (by omega)) (bd_g g1 (bd_g (a := 0) (b := cp (cpp γb 31 11 (some qq)) 31 12 (nI (10 * j))) rfl (bd_g u1 rfl)))) (show lm_stagger_30 n (k + 1) μ (nI i) (nI (10 * j)) = _ from if_f (nI_ge (b := 1000) (by omega) (by omega)) (bd_g g2 (sq_g (sq_g (bd_g u2 rfl))))) ?_
    have e10 : nI (10 * j) + 10 = nI (10 * (j + 1)) := nI_add (10 * j) 10
    by_cases c9 : r = -9
    · exact OKE_cm (if_t c9 rfl) (if_t c9 rfl) (OKE_ret rfl u3)
    · exact OKE_cm (if_f c9 (sq_r e10 rfl)) (if_f c9 (sq_r e10 rfl)) (ih (j + 1) k γ1 μ1 (by omega) (by omega) u3)
theorem s_stagger (n : Nat) (hn : 10000 ≤ n) : st_stagger n Rl := by
  intro γ μ x1 H
  show OK _ _
  obtain ⟨np, nl, ng, HB⟩ := H.2.2.2.1
  unfold fc_X7_stagger fm_stagger
  rcases loss_both n HB x1 with ⟨e1, e2⟩ | ⟨i, qq, a, s, cs, fr, kd, ff, tt, rfl, hi, e1, e2, hL⟩
  · exact OK_cm (bd_g e1 (oc_gn rfl rfl)) (bd_g e2 (if_t rfl rfl)) (OK_1 H)
  refine OK_cm (bd_g e1 (oc_gs rfl rfl)) (bd_g e2 (if_f one_ne rfl)) ?_
  rcases sp_both HB with ⟨e1, e2⟩ | ⟨e1, e2, e3⟩
  · exact OK_cm (if_t e1 rfl) (if_t e2 rfl) (OK_3 H)
  obtain ⟨pn, fl, f0, ln, tk, en, tc, q, w, d, e, h, t, hpn, hS⟩ := SP_of HB e3
  obtain ⟨len, sl, hR⟩ := RW_of HB
  exact OK_E H (OKE_cm (if_f e1 (sq_g rfl)) (if_f e2 (sq_g rfl)) (stag_loop n hn HB hR hpn hS hi hL.1 (pk_s hL.2.1.1).2.1 100 0 n γ μ (by omega) (by omega) (EN.rf γ μ)))
