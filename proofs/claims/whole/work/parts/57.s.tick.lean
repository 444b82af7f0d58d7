section
/-! THE PLATE's own ticks -/
theorem MR_cong {γ γ1 : CS} {μ μ1 : MS} {nl p f l tk stp : Nat} (h : MR γ μ nl p f l tk stp) (c31 : γ1.1 31 = γ.1 31) (c32 : γ1.1 32 = γ.1 32) (cP : γ1.2.2.1 = γ.2.2.1) (m0 : ∀ k, 25 ≤ k → k ≤ 32 → μ1.1 0 k = μ.1 0 k) (mr : ∀ a, 3 ≤ a → a ≤ 9 → μ1.1 a = μ.1 a) : MR γ1 μ1 nl p f l tk stp := by
  obtain ⟨d, t, hh, a1, ⟨b1, b2, b3, b4, b5, b6, b7, b8⟩, ⟨d1, d2, d3, d4, d5, d6, d7, d8⟩, a4, a5, a6, a7⟩ := h
  refine ⟨d, t, hh, a1, ⟨by rw [c31]; exact b1, by rw [c31]; exact b2, by rw [c31]; exact b3, by rw [c31]; exact b4, by rw [c32]; exact b5, by rw [c32]; exact b6, by rw [c32]; exact b7, by rw [c32]; exact b8⟩, ⟨by rw [m0 _ (by omega) (by omega)]; exact d1, by rw [m0 _ (by omega) (by omega)]; exact d2, by rw [m0 _ (by omega) (by omega)]; exact d3, by rw [m0 _ (by omega) (by omega)]; exact d4, by rw [mr _ (by omega) (by omega)]; exact d5, by rw [mr _ (by omega) (by omega)]; exact d6, d7, d8⟩, by rw [c32, mr 3 (by omega) (by omega), mr 5 (by omega) (by omega), mr 8 (by omega) (by omega), mr 9 (by omega) (by omega)]; exact a4, by rw [c31, m0 30 (by omega) (by omega), mr 6 (by omega) (by omega)]; exact a5, by rw [c31, m0 28 (by omega) (by omega)]; exact a6, ?_⟩
  rw [cP, c31, m0 31 (by omega) (by omega), m0 32 (by omega) (by omega)]
  exact a7
theorem count_loop (n : Nat) {V : Nat → Nat} {lean : Nat} (hV : ∀ j, V j ≤ 9999) (hl : lean ≤ 9000) : ∀ (m i k : Nat) (γ : CS), i + m = 8 → m < k → (∀ j, j < 8 → γ.1 33 j = nI (V j)) → ∃ γ1, lc_X5_countParts_7 n k γ (nI (lean - sumV V i * 1)) (nI i) = some (0, γ1) ∧ γ1.2 = γ.2 ∧ (∀ a, a ≠ 13 → γ1.1 a = γ.1 a) ∧ (∀ j, i ≤ j → j < 8 → γ1.1 13 j = γ.1 13 j + nI (prt V lean 1 j)) ∧ (∀ j, j < i → γ1.1 13 j = γ.1 13 j) := by
  intro m
  induction m with
  | zero =>
    intro i k γ hi hk h33
    obtain ⟨k, rfl⟩ : ∃ k', k = k' + 1 := ⟨k - 1, by omega⟩
    exact ⟨γ, if_t (nI_le (a := 8) (by omega) (by omega)) rfl, rfl, fun _ _ => rfl, fun j h1 h2 => absurd h2 (by omega), fun _ _ => rfl⟩
  | succ m ih =>
    intro i k γ hi hk h33
    obtain ⟨k, rfl⟩ : ∃ k', k = k' + 1 := ⟨k - 1, by omega⟩
    have hci : Int32.toNatClampNeg (nI i) = i := nI_clamp (by omega)
    have hib : ib (nI i) 8 = true := ib_nI (by omega) (by omega)
    have hvi := hV i
    have hmin : (if nI (V i) < nI (lean - sumV V i * 1) then nI (V i) else nI (lean - sumV V i * 1)) = nI (prt V lean 1 i) := by
      unfold prt
      by_cases c : V i < lean - sumV V i * 1
      · rw [if_pos (nI_lt c (by omega))]
        congr 1
        omega
      · rw [if_neg (nI_nlt (by omega) (by omega))]
        congr 1
        omega
    have hsub : nI (lean - sumV V i * 1) - nI (prt V lean 1 i) = nI (lean - sumV V (i + 1) * 1) := by
      rw [nI_sub (by unfold prt; omega) (by omega), lft]
    obtain ⟨γ1, r1, r2, r3, r4, r5⟩ := ih (i + 1) k (cp γ 13 i (γ.1 13 i + nI (prt V lean 1 i))) (by omega) (by omega) (fun j hj => by rw [cp_ne _ _ _ _ (by decide)]; exact h33 j hj)
    have hne : ¬ (Int32.ofNat 8) ≤ nI i := nI_ge (b := 8) (by omega) (by omega)
    refine ⟨γ1, if_f hne (if_f hne (ck_g hib (sq_r (by rw [hci]; exact h33 i (by omega)) (sq_r hmin (ck_g hib (sq_r (x1 := γ.1 13 i) (by rw [hci]) (ck_g hib (sq_r (x1 := cp γ 13 i (γ.1 13 i + nI (prt V lean 1 i))) (by rw [hci]) (sq_r hsub (sq_r (nI_1 i) r1)))))))))), r2, fun a ha => by rw [r3 a ha, cp_ne _ _ _ _ ha], fun j h1 h2 => ?_, fun j hj => by rw [r5 j (by omega), cp_1, if_neg (by omega)]⟩
    by_cases e : j = i
    · subst e
      rw [r5 j (by omega), cp_1, if_pos ⟨rfl, rfl⟩]
    · rw [r4 j (by omega) h2, cp_1, if_neg (by omega)]
def tkTail (n : Nat) (K : MS → Int32 → Int32 → Option (Int32 × MS)) (x1 x3 : Int32) (σ : MS) : Option (Int32 × MS) := (sq (mp σ 0 40 (σ.1 0 26)) (fun σ2 => sq (mp σ2 0 42 (σ2.1 0 29)) (fun σ3 => bd (fm_keepsTenth n σ3) (fun _ σ5 => sq (x3 + 1 : Int32) (fun y6 => K σ5 x1 y6)))))
theorem took_loop (n : Nat) (K : MS → Int32 → Int32 → Option (Int32 × MS)) (x1 x3 : Int32) {nl : Nat} (hnl : nl ≤ 8) (P : Nat → Int32) : ∀ (m i k : Nat) (μ : MS), i + m = nl → m < k → μ.1 0 21 = nI nl → (∀ j, j < nl → μ.1 18 j = P j) → ∃ μ1, lm_tick_109 n K k μ x1 x3 (nI i) = tkTail n K x1 x3 μ1 ∧ μ1.2 = μ.2 ∧ (∀ a, a ≠ 13 → μ1.1 a = μ.1 a) ∧ (∀ j, i ≤ j → j < nl → μ1.1 13 j = μ.1 13 j + P j) ∧ (∀ j, j < i → μ1.1 13 j = μ.1 13 j) := by
  intro m
  induction m with
  | zero =>
    intro i k μ hi hk h21 h18
    obtain ⟨k, rfl⟩ : ∃ k', k = k' + 1 := ⟨k - 1, by omega⟩
    exact ⟨μ, if_t (by rw [h21]; exact nI_le (by omega) (by omega)) rfl, rfl, fun _ _ => rfl, fun j h1 h2 => absurd h2 (by omega), fun _ _ => rfl⟩
  | succ m ih =>
    intro i k μ hi hk h21 h18
    obtain ⟨k, rfl⟩ : ∃ k', k = k' + 1 := ⟨k - 1, by omega⟩
    have hci : Int32.toNatClampNeg (nI i) = i := nI_clamp (by omega)
    have hib : ib (nI i) 9 = true := ib_nI (by omega) (by omega)
    obtain ⟨μ1, r1, r2, r3, r4, r5⟩ := ih (i + 1) k (mp μ 13 i (μ.1 13 i + P i)) (by omega) (by omega) (by rw [mp_ne _ _ _ _ (by decide)]; exact h21) (fun j hj => by rw [mp_ne _ _ _ _ (by decide)]; exact h18 j hj)
    refine ⟨μ1, if_f (by rw [h21]; exact nI_ge (by omega) (by omega)) (ck_g hib (sq_r (x1 := μ.1 13 i) (by rw [hci]) (ck_g hib (sq_r (x1 := P i) (by rw [hci]; exact h18 i (by omega)) (ck_g hib (sq_r (x1 := mp μ 13 i (μ.1 13 i + P i)) (by rw [hci]) (sq_r (nI_1 i) r1))))))), r2, fun a ha => by rw [r3 a ha, mp_ne _ _ _ _ ha], fun j h1 h2 => ?_, fun j hj => by rw [r5 j (by omega), mp_1, if_neg (by omega)]⟩
    by_cases e : j = i
    · subst e
      rw [r5 j (by omega), mp_1, if_pos ⟨rfl, rfl⟩]
    · rw [r4 j (by omega) h2, mp_1, if_neg (by omega)]
/-- where a tick of THE PLATE stands in both -/
def TK (γ : CS) (μ : MS) (np nl ng pn fl f0 ln tk en tc q w d e h t : Nat) : Prop := Rl γ μ ∧ RBn γ 5 (live μ) np nl ng ∧ γ.1 12 0 = 1 ∧ SP γ μ pn fl f0 ln tk en tc q w d e h t ∧ MR γ (mp (mbg μ pn ln f0 (allI nl)) 0 29 (nI tk)) nl pn f0 ln tk 1
def mgo (μ : MS) (nl pn f0 ln tk : Nat) (tone : Int32) : MS := mq (mp (mbg μ pn ln f0 (allI nl)) 0 29 (nI tk)) 46 (μ.2 46 + Int32.toInt64 tone)
theorem mgo_row (μ : MS) (nl pn f0 ln tk : Nat) (tone : Int32) {a : Nat} (h : a ≠ 0) : (mgo μ nl pn f0 ln tk tone).1 a = μ.1 a := by
  unfold mgo
  rw [mq_1, mp_ne _ _ _ _ h, mbg_row _ _ _ _ _ h]
theorem mgo_k (μ : MS) (nl pn f0 ln tk : Nat) (tone : Int32) {k : Nat} (h : k < 25 ∨ 31 < k) : (mgo μ nl pn f0 ln tk tone).1 0 k = μ.1 0 k := by
  unfold mgo mbg
  rw [mq_1]
  rw [mp_1, if_neg (by omega), mp_1, if_neg (by omega), mp_1, if_neg (by omega), mp_1, if_neg (by omega), mp_1, if_neg (by omega), mp_1, if_neg (by omega), mp_1, if_neg (by omega), mp_1, if_neg (by omega)]
theorem mb_0 (μ : MS) (set : Int32) (pn f0 ln tk : Nat) : (mp (mbg μ pn ln f0 set) 0 29 (nI tk)).1 0 25 = nI pn ∧ (mp (mbg μ pn ln f0 set) 0 29 (nI tk)).1 0 26 = nI ln ∧ (mp (mbg μ pn ln f0 set) 0 29 (nI tk)).1 0 27 = nI f0 ∧ (mp (mbg μ pn ln f0 set) 0 29 (nI tk)).1 0 28 = set ∧ (mp (mbg μ pn ln f0 set) 0 29 (nI tk)).1 0 29 = nI tk ∧ (mp (mbg μ pn ln f0 set) 0 29 (nI tk)).1 0 30 = μ.1 0 12 ∧ (mp (mbg μ pn ln f0 set) 0 29 (nI tk)).1 0 31 = -1 ∧ (mp (mbg μ pn ln f0 set) 0 29 (nI tk)).1 0 32 = μ.1 0 32 := by
  unfold mbg
  simp [mp_1]
theorem tick_one (n : Nat) (hn : 10000 ≤ n) {γ : CS} {μ : MS} {np nl ng pn fl f0 ln tk tc q w d e h t : Nat} (hpn : pn < np) (hT : TK γ μ np nl ng pn fl f0 ln tk 0 tc q w d e h t) (K : MS → Int32 → Int32 → Option (Int32 × MS)) (x1 x3 : Int32) (hx : ¬ x1 ≤ x3) : ∃ γ1 γ2 μ2 ln1 en1 tc1, fc_X2_advance n γ = some (0, γ1) ∧ fc_X5_follow n γ1 = some (0, γ2) ∧ bm_tick_35 n K μ x1 x3 = K μ2 x1 (x3 + 1) ∧ TK γ2 μ2 np nl ng pn fl f0 ln1 (tk + 1) en1 tc1 q w d e h t := by
  obtain ⟨H, HB, h0, hS, hMR⟩ := hT
  have hnp := HB.1.1
  have hnl := HB.1.2.1
  obtain ⟨⟨s1, s2, s3, s4, s5, s6, s7⟩, hP, ⟨p1, p2⟩, ⟨p3, p4⟩, ⟨p5, p6⟩, ⟨p7, p8⟩, p9, ⟨p10, p11⟩, ⟨p12, p13⟩, ⟨p14, p15⟩, p16⟩ := id hS
  obtain ⟨a1, a2, a3, ⟨a4, a5, a6, a7, a8⟩, ⟨b4, b5, b6, b7, b8⟩, a9⟩ := id hP
  have b5 : μ.1 4 pn = nI d := b5
  have b8 : μ.1 7 pn = nI t := b8
  have h21 : μ.1 0 21 = nI nl := HB.2.2.1.2
  obtain ⟨z1, z2, z3, z4, z5, z6⟩ := HB.2.2.2.2.2.2.2.2.2.2.1
  have z1 : γ.1 12 0 = μ.1 0 38 := z1
  have z3 : γ.2.1 12 = μ.2 46 := z3
  have z4 : ∀ i, i < nl → γ.1 13 i = μ.1 13 i := z4
  have z5 : ∀ i, nl ≤ i → i < 8 → γ.1 13 i = 0 := z5
  have hLL : LL γ (mp (mbg μ pn ln f0 (allI nl)) 0 29 (nI tk)) nl := LL_eng (CE.rf γ) (ME.tr (mbg_ME μ pn ln f0 (allI nl)) (ME_mp0 (by omega) _)) (LL_of HB)
  have hLL1 : LL γ (mgo μ nl pn f0 ln tk (nI (TN ln d t))) nl := hLL
  have hMR1 : MR γ (mgo μ nl pn f0 ln tk (nI (TN ln d t))) nl pn f0 ln tk 1 := hMR
  obtain ⟨γ1, μ1, V, kd, X, ln1, en1, t1, t2, t3, t4, t5, t6, t7, t8, t9, t10, t11, t12, t13, t14, t15, -⟩ := tick_both n (by omega) hLL1 hMR1 (by omega) (by omega) (by omega)
  have hCG : CG γ γ1 := CG_2 t3 t15
  obtain ⟨d', t', hh', ⟨u1, u2, u3, u4, u5, u6⟩, ⟨w1, w2, w3, w4, w5, w6, w7, w8⟩, ⟨y1, y2, y3, y4, y5, y6, y7, y8⟩, y9⟩ := id t5
  have er1 : ∀ a, a ≠ 0 → a ≠ 17 → a ≠ 18 → μ1.1 a = μ.1 a := fun a g0 g17 g18 => by rw [t4.2.1 a g0 g17 g18, mgo_row _ _ _ _ _ _ _ g0]
  have hd' : d' = d := (nI_eq (by omega) (by omega)).mp (y5.symm.trans (by rw [er1 4 (by decide) (by decide) (by decide)]; exact b5))
  have ht' : t' = t := (nI_eq (by omega) (by omega)).mp (y6.symm.trans (by rw [er1 7 (by decide) (by decide) (by decide)]; exact b8))
  subst hd' ht'
  have eC : ∀ a, (5 ≤ a ∧ a ≤ 17) → γ1.1 a = γ.1 a := fun a ha => t3.2.2.2 a (by omega) (by omega) (by omega) (by omega)
  have hln1 : ln1 ≤ ln := by rw [t7]; omega
  have hen1 : en1 ≤ 4 := by rw [t8]; exact enD_le _ _ _ _
  have hen0 : en1 = 0 → tk + 1 ≤ 9998 := fun e0 => by rw [t8] at e0; exact enD_0 e0
  have emk : ∀ k, (k < 25 ∨ 35 < k) → μ1.1 0 k = μ.1 0 k := fun k hk => by rw [t4.2.2 k hk, mgo_k _ _ _ _ _ _ _ (by omega)]
  -- the class
  have h124 : (cpj γ1 12 (γ1.2.1 12 + Int32.toInt64 (γ1.1 12 5))).1 12 4 = nI (ln - sumV V 0 * 1) := by
    rw [cpj_1, eC 12 (by omega), p7]
    rfl
  obtain ⟨γ3, c1, c2, c3, c4, c5⟩ := count_loop n t11 s4 8 0 n (cpj γ1 12 (γ1.2.1 12 + Int32.toInt64 (γ1.1 12 5))) (by omega) (by omega) t9
  have hcnt : fc_X5_countParts n (cpj γ1 12 (γ1.2.1 12 + Int32.toInt64 (γ1.1 12 5))) = some (0, γ3) := sq_r h124 (sq_g c1)
  have r31 : γ3.1 31 = γ1.1 31 := by rw [c3 31 (by decide), cpj_1]
  obtain ⟨γ7, hγ7⟩ : ∃ γ7, γ7 = cp (cp (cp (cp γ3 12 4 (nI ln1)) 12 5 (nI (TN ln1 d' t'))) 12 6 (nI (tk + 1))) 12 7 (nI en1) := ⟨_, rfl⟩
  have g7row : ∀ a, a ≠ 12 → γ7.1 a = γ3.1 a := fun a ha => by rw [hγ7, cp_ne _ _ _ _ ha, cp_ne _ _ _ _ ha, cp_ne _ _ _ _ ha, cp_ne _ _ _ _ ha]
  have g7o : ∀ k, (k < 4 ∨ 7 < k) → γ7.1 12 k = γ.1 12 k := fun k hk => by rw [hγ7, cp_1, if_neg (by omega), cp_1, if_neg (by omega), cp_1, if_neg (by omega), cp_1, if_neg (by omega), c3 12 (by decide), cpj_1, eC 12 (by omega)]
  have g74 : γ7.1 12 4 = nI ln1 := by rw [hγ7]; simp [cp_1]
  have g75 : γ7.1 12 5 = nI (TN ln1 d' t') := by rw [hγ7]; simp [cp_1]
  have g76 : γ7.1 12 6 = nI (tk + 1) := by rw [hγ7]; simp [cp_1]
  have g77 : γ7.1 12 7 = nI en1 := by rw [hγ7]; simp [cp_1]
  have g79 : γ7.1 12 9 = nI tc := by rw [g7o 9 (by omega)]; exact p14
  have g72 : γ7.2 = (cpj γ1 12 (γ1.2.1 12 + Int32.toInt64 (γ1.1 12 5))).2 := by rw [hγ7, cp_2, cp_2, cp_2, cp_2, c2]
  have hfol : fc_X5_follow n γ1 = some (0, if (tk + 1) % 10 = 0 then kC γ7 tc else γ7) := by
    unfold fc_X5_follow
    refine sq_g (bd_g hcnt (sq_r (x1 := cp γ3 12 4 (nI ln1)) (by rw [r31, w1]) (sq_r (x1 := cp (cp γ3 12 4 (nI ln1)) 12 5 (nI (TN ln1 d' t'))) (by rw [cp_ne _ _ _ _ (by decide), r31, w2]) (sq_r (x1 := cp (cp (cp γ3 12 4 (nI ln1)) 12 5 (nI (TN ln1 d' t'))) 12 6 (nI (tk + 1))) (by rw [cp_ne _ _ _ _ (by decide), cp_ne _ _ _ _ (by decide), r31, w3]) (sq_r (x1 := γ7) (by rw [cp_ne _ _ _ _ (by decide), cp_ne _ _ _ _ (by decide), cp_ne _ _ _ _ (by decide), r31, t6, hγ7]) ?_)))))
    rw [g76, md10 (by omega)]
    by_cases c10 : (tk + 1) % 10 = 0
    · rw [if_pos c10]
      exact if_t (by rw [c10]; rfl) (bd_g (keep_C n s7 g79) rfl)
    · rw [if_neg c10]
      exact if_f (nI_ne0 (by omega) (by omega)) rfl
  -- the reference
  have e43 : ∀ a, a ≠ 0 → (mp μ1 0 43 (nI en1)).1 a = μ1.1 a := fun a ha => mp_ne _ _ _ _ ha
  obtain ⟨μ3, m1, m2, m3, m4, m5⟩ := took_loop n K x1 x3 hnl (fun j => nI (prt V ln 1 j)) nl 0 n (mp μ1 0 43 (nI en1)) (by omega) (by omega) (by rw [mp_1, if_neg (by omega), emk 21 (by omega)]; exact h21) (fun j hj => by rw [e43 18 (by decide)]; exact t10 j hj)
  have k3 : ∀ k, k ≠ 43 → μ3.1 0 k = μ1.1 0 k := fun k hk => by rw [m3 0 (by decide), mp_1, if_neg (by omega)]
  obtain ⟨μ5, hμ5⟩ : ∃ μ5, μ5 = mp (mp μ3 0 40 (nI ln1)) 0 42 (nI (tk + 1)) := ⟨_, rfl⟩
  have q5row : ∀ a, a ≠ 0 → μ5.1 a = μ3.1 a := fun a ha => by rw [hμ5, mp_ne _ _ _ _ ha, mp_ne _ _ _ _ ha]
  have q5k : ∀ k, k ≠ 40 → k ≠ 42 → k ≠ 43 → μ5.1 0 k = μ1.1 0 k := fun k g1 g2 g3 => by rw [hμ5, mp_1, if_neg (by omega), mp_1, if_neg (by omega), k3 k g3]
  have q540 : μ5.1 0 40 = nI ln1 := by rw [hμ5]; simp [mp_1]
  have q542 : μ5.1 0 42 = nI (tk + 1) := by rw [hμ5]; simp [mp_1]
  have q543 : μ5.1 0 43 = nI en1 := by rw [hμ5, mp_1, if_neg (by omega), mp_1, if_neg (by omega), m3 0 (by decide), mp_1, if_pos ⟨rfl, rfl⟩]
  have q545 : μ5.1 0 45 = nI tc := by rw [q5k 45 (by omega) (by omega) (by omega), emk 45 (by omega)]; exact p15
  have q5r : ∀ a, a ≠ 0 → a ≠ 13 → a ≠ 17 → a ≠ 18 → μ5.1 a = μ.1 a := fun a g0 g13 g17 g18 => by rw [q5row a g0, m3 a g13, e43 a g0, er1 a g0 g17 g18]
  have q52 : μ5.2 = (mgo μ nl pn f0 ln tk (nI (TN ln d' t'))).2 := by rw [hμ5, mp_2, mp_2, m2, mp_2, t4.1]
  have hkm := keep_M n (μ := μ5) (tk := tk + 1) (tc := tc) (pn := pn) (ln := ln1) (d := d') (t := t') (by omega) q542 s7 q545 s1 (by rw [q5k 39 (by omega) (by omega) (by omega), emk 39 (by omega)]; exact p2) (by omega) q540 u4 u5 (by rw [q5r 4 (by decide) (by decide) (by decide) (by decide)]; exact b5) (by rw [q5r 7 (by decide) (by decide) (by decide) (by decide)]; exact b8)
  have htail : tkTail n K x1 x3 μ3 = K (if (tk + 1) % 10 = 0 then kM μ5 tc (nI (TN ln1 d' t')) else μ5) x1 (x3 + 1) := by
    unfold tkTail
    exact sq_r (x1 := mp μ3 0 40 (nI ln1)) (by rw [k3 26 (by omega), y2]) (sq_r (x1 := μ5) (by rw [mp_1, if_neg (by omega), k3 29 (by omega), y4, hμ5]) (bd_g hkm rfl))
  have hbody : bm_tick_35 n K μ x1 x3 = K (if (tk + 1) % 10 = 0 then kM μ5 tc (nI (TN ln1 d' t')) else μ5) x1 (x3 + 1) := by
    unfold bm_tick_35
    have hal := fm_all_eq n hnl h21
    have hbg : fm_begins n μ (μ.1 0 39) (μ.1 0 40) (μ.1 0 41) (allI nl) = some (0, mbg μ pn ln f0 (allI nl)) := by rw [p2, p8, p6]; exact begins_M n μ pn ln f0 (allI nl)
    have h42 : (mbg μ pn ln f0 (allI nl)).1 0 42 = nI tk := by rw [(mbg_ME μ pn ln f0 (allI nl)).2.2 42 (by omega)]; exact p11
    have hME7 : ME μ (mp (mbg μ pn ln f0 (allI nl)) 0 29 (nI tk)) := ME.tr (mbg_ME μ pn ln f0 (allI nl)) (ME_mp0 (by omega) _)
    have htn : fm_toneOf n (mp (mbg μ pn ln f0 (allI nl)) 0 29 (nI tk)) ((mp (mbg μ pn ln f0 (allI nl)) 0 29 (nI tk)).1 0 39) ((mp (mbg μ pn ln f0 (allI nl)) 0 29 (nI tk)).1 0 40) = some (nI (TN ln d' t'), mp (mbg μ pn ln f0 (allI nl)) 0 29 (nI tk)) := by
      rw [hME7.2.2 39 (by omega), hME7.2.2 40 (by omega), p2, p8]
      exact mtone n _ (by omega) s4 u4 u5 (by rw [hME7.2.1 4 (by decide) (by decide) (by decide)]; exact b5) (by rw [hME7.2.1 7 (by decide) (by decide) (by decide)]; exact b8)
    refine if_f hx (if_t p13 (bd_g hal (bd_g hbg (sq_r (x1 := mp (mbg μ pn ln f0 (allI nl)) 0 29 (nI tk)) (by rw [h42]) (bd_g htn (sq_r (x1 := mgo μ nl pn f0 ln tk (nI (TN ln d' t'))) (by rw [hME7.1]; rfl) (bd_g t2 (sq_g (sq_g (m1.trans htail))))))))))
  -- both again
  obtain ⟨γ2, hγ2⟩ : ∃ γ2, γ2 = if (tk + 1) % 10 = 0 then kC γ7 tc else γ7 := ⟨_, rfl⟩
  obtain ⟨μ2, hμ2⟩ : ∃ μ2, μ2 = if (tk + 1) % 10 = 0 then kM μ5 tc (nI (TN ln1 d' t')) else μ5 := ⟨_, rfl⟩
  have G2 : γ2.2 = γ7.2 := by rw [hγ2]; by_cases c : (tk + 1) % 10 = 0 <;> simp only [c, if_true, if_false, kC_2]
  have Grow : ∀ a, a ≠ 12 → a ≠ 14 → a ≠ 15 → γ2.1 a = γ7.1 a := fun a g1 g2 g3 => by rw [hγ2]; by_cases c : (tk + 1) % 10 = 0 <;> simp only [c, if_true, if_false, kC_row γ7 tc g1 g2 g3]
  have G12 : ∀ k, k ≠ 9 → γ2.1 12 k = γ7.1 12 k := fun k g => by rw [hγ2]; by_cases c : (tk + 1) % 10 = 0 <;> simp only [c, if_true, if_false, kC_12 γ7 tc g]
  have M2 : μ2.2 = μ5.2 := by rw [hμ2]; by_cases c : (tk + 1) % 10 = 0 <;> simp only [c, if_true, if_false, kM_2]
  have Mrow : ∀ a, a ≠ 0 → a ≠ 19 → a ≠ 20 → μ2.1 a = μ5.1 a := fun a g1 g2 g3 => by rw [hμ2]; by_cases c : (tk + 1) % 10 = 0 <;> simp only [c, if_true, if_false, kM_row μ5 tc _ g1 g2 g3]
  have M0 : ∀ k, k ≠ 45 → μ2.1 0 k = μ5.1 0 k := fun k g => by rw [hμ2]; by_cases c : (tk + 1) % 10 = 0 <;> simp only [c, if_true, if_false, kM_0 μ5 tc _ g]
  obtain ⟨tc1, htc, G9, M45, Gs⟩ : ∃ tc1, tc1 ≤ 100 ∧ γ2.1 12 9 = nI tc1 ∧ μ2.1 0 45 = nI tc1 ∧ ∀ i, i < tc1 → γ2.1 14 i = μ2.1 19 i ∧ γ2.1 15 i = μ2.1 20 i := by
    have hs : ∀ i, i < tc → γ7.1 14 i = μ5.1 19 i ∧ γ7.1 15 i = μ5.1 20 i := fun i hi => by
      rw [g7row 14 (by decide), g7row 15 (by decide), c3 14 (by decide), c3 15 (by decide), cpj_1, eC 14 (by omega), eC 15 (by omega), q5r 19 (by decide) (by decide) (by decide) (by decide), q5r 20 (by decide) (by decide) (by decide) (by decide)]
      exact p16 i hi
    rw [hγ2, hμ2]
    by_cases c : (tk + 1) % 10 = 0
    · rw [if_pos c, if_pos c]
      have := k_same (γ := γ7) (μ := μ5) (tc := tc) (by rw [g74, q540]) hs
      rw [g75] at this
      exact ⟨kT tc, kT_le s7, kC_9 g79, kM_45 _ q545, this⟩
    · rw [if_neg c, if_neg c]
      exact ⟨tc, s7, g79, q545, hs⟩
  have C22 : γ2.2.2 = γ1.2.2 := by rw [G2, g72]; rfl
  have CI : ∀ a, (a < 12 ∨ 15 < a) → γ2.1 a = γ1.1 a := fun a ha => by rw [Grow a (by omega) (by omega) (by omega), g7row a (by omega), c3 a (by omega), cpj_1]
  -- the base: the reference as the engine left it, with the long field of before
  have hbase : EN γ μ γ1 (μ1.1, μ.2) := ⟨hCG, rfl, fun a g0 g17 g18 => er1 a g0 g17 g18, fun k hk => emk k hk⟩
  have Hb := EN_Rl hbase H
  have HBb := EN_HB hbase HB
  have MM : ∀ a, a ≠ 0 → a ≠ 13 → a ≠ 17 → a ≠ 18 → a ≠ 19 → a ≠ 20 → μ2.1 a = ((μ1.1, μ.2) : MS).1 a := fun a g0 g13 g17 g18 g19 g20 => by rw [Mrow a g0 g19 g20, q5row a g0, m3 a g13, e43 a g0]
  have MS0 : ∀ k, (k < 25 ∨ 45 < k) → μ2.1 0 k = ((μ1.1, μ.2) : MS).1 0 k := fun k hk => by rw [M0 k (by omega), q5k k (by omega) (by omega) (by omega)]
  have hPL : PLr γ2 5 (live μ2) pn q w d' e h t' := by
    refine PLr_move (PO_22 C22 (fun a ha => CI a (by omega))) (by rw [C22]) (fun a h1 h2 => ?_) (EN_PL hbase s1 hP)
    show μ2.1 a pn = μ1.1 a pn
    rw [MM a (by omega) (by omega) (by omega) (by omega) (by omega) (by omega)]
  have hS2 : SP γ2 μ2 pn fl f0 ln1 (tk + 1) en1 tc1 q w d' e h t' := by
    refine ⟨⟨s1, s2, s3, by omega, by omega, hen1, htc⟩, hPL, ⟨?_, ?_⟩, ⟨?_, ?_⟩, ⟨?_, ?_⟩, ⟨?_, ?_⟩, ?_, ⟨?_, ?_⟩, ⟨?_, ?_⟩, ⟨G9, M45⟩, Gs⟩
    · rw [G12 1 (by omega), g7o 1 (by omega)]; exact p1
    · rw [M0 39 (by omega), q5k 39 (by omega) (by omega) (by omega), emk 39 (by omega)]; exact p2
    · rw [G12 2 (by omega), g7o 2 (by omega)]; exact p3
    · rw [M0 44 (by omega), q5k 44 (by omega) (by omega) (by omega), emk 44 (by omega)]; exact p4
    · rw [G12 3 (by omega), g7o 3 (by omega)]; exact p5
    · rw [M0 41 (by omega), q5k 41 (by omega) (by omega) (by omega), emk 41 (by omega)]; exact p6
    · rw [G12 4 (by omega)]; exact g74
    · rw [M0 40 (by omega)]; exact q540
    · rw [G12 5 (by omega)]; exact g75
    · rw [G12 6 (by omega)]; exact g76
    · rw [M0 42 (by omega)]; exact q542
    · rw [G12 7 (by omega)]; exact g77
    · rw [M0 43 (by omega)]; exact q543
  have h02 : γ2.1 12 0 = 1 := by rw [G12 0 (by omega), g7o 0 (by omega)]; exact h0
  have hsp : SPr γ2 5 (live μ2) np nl := by
    refine SPr_mk hpn h02 ?_ ?_ (fun j hj => ?_) (fun j h1 h2 => ?_) hS2
    · rw [M0 38 (by omega), q5k 38 (by omega) (by omega) (by omega), emk 38 (by omega), ← z1]; exact h0
    · rw [G2, g72, M2, q52]
      show va_up γ1.2.1 12 (γ1.2.1 12 + Int32.toInt64 (γ1.1 12 5)) 12 = va_up (mp (mbg μ pn ln f0 (allI nl)) 0 29 (nI tk)).2 46 (μ.2 46 + Int32.toInt64 (nI (TN ln d' t'))) 46
      rw [t15, eC 12 (by omega), p9, z3]
      simp [va_up]
    · rw [Grow 13 (by decide) (by decide) (by decide), g7row 13 (by decide), c4 j (by omega) (by omega), cpj_1, eC 13 (by omega), z4 j hj, Mrow 13 (by decide) (by decide) (by decide), q5row 13 (by decide), m4 j (by omega) hj, e43 13 (by decide), er1 13 (by decide) (by decide) (by decide)]
    · have hv0 : prt V ln 1 j = 0 := by unfold prt; rw [t12 j h1]; omega
      rw [Grow 13 (by decide) (by decide) (by decide), g7row 13 (by decide), c4 j (by omega) h2, cpj_1, eC 13 (by omega), z5 j h1 h2, hv0]
      decide
  have HB2 := RB_spun HBb C22 CI MM MS0 hsp
  have hRl := Rl_spun Hb HB2 C22 CI (by rw [G2, g72]; rfl) MM MS0 (by rw [M2, q52]; rfl)
  refine ⟨γ1, γ2, μ2, ln1, en1, tc1, t1, by rw [hγ2]; exact hfol, by rw [hμ2]; exact hbody, hRl, HB2, h02, hS2, ?_⟩
  obtain ⟨n1, n2, n3, n4, n5, n6, n7, n8⟩ := mb_0 μ2 (allI nl) pn f0 ln1 (tk + 1)
  obtain ⟨o1, o2, o3, o4, o5, o6, o7, o8⟩ := mb_0 μ (allI nl) pn f0 ln tk
  have tk13 : ∀ k, k ≠ 26 → k ≠ 29 → k ≠ 34 → μ1.1 0 k = (mp (mbg μ pn ln f0 (allI nl)) 0 29 (nI tk)).1 0 k := t13
  refine MR_cong t5 (CI 31 (by omega)) (CI 32 (by omega)) (by rw [C22]) (fun k g1 g2 => ?_) (fun a g1 g2 => ?_)
  · rcases (show k = 25 ∨ k = 26 ∨ k = 27 ∨ k = 28 ∨ k = 29 ∨ k = 30 ∨ k = 31 ∨ k = 32 by omega) with rfl | rfl | rfl | rfl | rfl | rfl | rfl | rfl
    · rw [n1, y1]
    · rw [n2, y2]
    · rw [n3, y3]
    · rw [n4, tk13 28 (by omega) (by omega) (by omega), o4]
    · rw [n5, y4]
    · rw [n6, tk13 30 (by omega) (by omega) (by omega), o6, MS0 12 (by omega)]
      exact emk 12 (by omega)
    · rw [n7, tk13 31 (by omega) (by omega) (by omega), o7]
    · rw [n8, M0 32 (by omega), q5k 32 (by omega) (by omega) (by omega)]
  · rw [mp_ne _ _ _ _ (by omega), mbg_row _ _ _ _ _ (by omega), MM a (by omega) (by omega) (by omega) (by omega) (by omega) (by omega)]
theorem tick_loop (n : Nat) (hn : 10000 ≤ n) {np nl ng pn fl f0 q w d e h t N : Nat} (hpn : pn < np) (hN : N ≤ 999) : ∀ (m i k : Nat) (γ : CS) (μ : MS) (ln tk en tc : Nat), i + m = N → m < k → TK γ μ np nl ng pn fl f0 ln tk en tc q w d e h t → OK (lc_X7_tick_87 n k γ (nI N) (nI i)) (lm_tick_35 n k μ (nI N) (nI i)) := by
  intro m
  induction m with
  | zero =>
    intro i k γ μ ln tk en tc hi hk hT
    obtain ⟨k, rfl⟩ : ∃ k', k = k' + 1 := ⟨k - 1, by omega⟩
    obtain ⟨e1, e2⟩ := hT.2.2.2.1.2.2.2.2.2.2.2.2.1
    exact OK_cm (if_t (nI_le (by omega) (by omega)) rfl) (if_t (nI_le (by omega) (by omega)) rfl) (OK_ret (e1.trans e2.symm) hT.1)
  | succ m ih =>
    intro i k γ μ ln tk en tc hi hk hT
    obtain ⟨k, rfl⟩ : ∃ k', k = k' + 1 := ⟨k - 1, by omega⟩
    obtain ⟨e1, e2⟩ := hT.2.2.2.1.2.2.2.2.2.2.2.2.1
    have hne : ¬ nI N ≤ nI i := nI_ge (by omega) (by omega)
    have hen := hT.2.2.2.1.1.2.2.2.2.2.1
    by_cases c : en = 0
    · subst c
      obtain ⟨γ1, γ2, μ2, ln1, en1, tc1, r1, r2, r3, r4⟩ := tick_one n hn hpn hT (lm_tick_35 n k) (nI N) (nI i) hne
      rw [nI_1] at r3
      exact OK_cm (if_f hne (if_t e1 (bd_g r1 (bd_g r2 (sq_r (nI_1 i) rfl))))) r3 (ih (i + 1) k γ2 μ2 ln1 (tk + 1) en1 tc1 (by omega) (by omega) r4)
    · have hn0 : ¬ nI en = 0 := nI_ne0 (by omega) (by omega)
      exact OK_cm (if_f hne (if_f (by rw [e1]; exact hn0) rfl)) (if_f hne (if_f (by rw [e2]; exact hn0) rfl)) (OK_ret (e1.trans e2.symm) hT.1)
theorem s_tick (n : Nat) (hn : 10000 ≤ n) : st_tick n Rl := by
  intro γ μ x1 H
  show OK _ _
  obtain ⟨np, nl, ng, HB⟩ := H.2.2.2.1
  unfold fc_X7_tick fm_tick
  rcases sp_both HB with ⟨e1, e2⟩ | ⟨e1, e2, e3⟩
  · exact OK_cm (if_t e1 rfl) (if_t e2 rfl) (OK_3 H)
  refine OK_cm (if_f e1 rfl) (if_f e2 rfl) ?_
  by_cases c1 : 1 ≤ x1
  · by_cases c2 : x1 ≤ 999
    · obtain ⟨N, hN1, hN, rfl⟩ := in1 (a := 1) (b := 999) (by omega) (by omega) c1 c2
      obtain ⟨pn, fl, f0, ln, tk, en, tc, q, w, d, e, h, t, hpn, hS⟩ := SP_of HB e3
      obtain ⟨⟨s1, s2, s3, s4, s5, s6, s7⟩, hP, ⟨p1, p2⟩, ⟨p3, p4⟩, ⟨p5, p6⟩, ⟨p7, p8⟩, p9, ⟨p10, p11⟩, pr⟩ := id hS
      obtain ⟨γb, g1, g2, g3⟩ := begin_both n HB hP s1 s4 s3
      have hJ := g3 (allI nl) (fun i hi => all_bits HB.1.2.1 hi)
      obtain ⟨q', w', d', e', h', t', k1, k2⟩ := plate_at n HB hpn
      have hqq : q' = q := Option.some.inj (k2.1.symm.trans hP.1)
      subst hqq
      have hCG : CG γ (cp γb 31 5 (nI tk)) := CG.tr g2.1 (CG_cp (by omega) _ _)
      have hE : EN γ μ (cp γb 31 5 (nI tk)) μ := ⟨hCG, ME.rf μ⟩
      have h126 : γb.1 12 6 = nI tk := by rw [g2.1.1.2.2.2 12 (by omega) (by omega) (by omega) (by omega)]; exact p10
      have hTK : TK (cp γb 31 5 (nI tk)) μ np nl ng pn fl f0 ln tk en tc q' w d e h t := ⟨EN_Rl hE H, EN_HB hE HB, by rw [hCG.1.2.2.2 12 (by omega) (by omega) (by omega) (by omega)]; exact e3, EN_SP hE hS, MR_tick hJ.2.1 tk⟩
      refine OK_cm (if_t c1 (if_t c2 (bd_g (a := some q') (b := γ) (by rw [p1]; exact k1) (bd_g (a := 0) (b := γb) (by rw [p7, p5]; exact g1) (sq_r (x1 := cp γb 31 5 (nI tk)) (by rw [h126]) (sq_g rfl)))))) (bd_g (bnd_in n μ c1 c2) (if_t rfl (sq_g rfl))) (tick_loop n hn hpn hN N 0 n _ _ ln tk en tc (by omega) (by omega) hTK)
    · exact OK_cm (if_t c1 (if_f c2 rfl)) (bd_g (bnd_hi n μ c1 c2) (if_f (by decide) rfl)) (OK_6 H)
  · exact OK_cm (if_f c1 rfl) (bd_g (bnd_lo n μ c1) (if_f (by decide) rfl)) (OK_4 H)
end
