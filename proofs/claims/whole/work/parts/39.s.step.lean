/-! one tick of both from what is the same in both -/
theorem LL_eng {γ γ1 : CS} {μ μ1 : MS} {nl : Nat} (hC : CE γ γ1) (hM : ME μ μ1) (h : LL γ μ nl) : LL γ1 μ1 nl := by
  obtain ⟨h1, h2, h3, h4⟩ := h
  refine ⟨h1, by rw [hC.2.2.2 5 (by decide) (by decide) (by decide) (by omega)]; exact h2, by rw [hM.2.2 21 (by omega)]; exact h3, fun i hi => ?_⟩
  obtain ⟨q, a, s, cs, fr, kd, f, t, l1, l2, l3, l4, l5, l6⟩ := h4 i hi
  obtain ⟨o1, o2, o3, o4, o5, o6, o7, o8, o9, o10, o11⟩ := l2
  have eN : γ1.2.2.2.2.1 = γ.2.2.2.2.1 := by rw [hC.2.2.1]
  have q34 := (pk_s o1).1
  have a34 := (pk_s o4).1
  have eq1 : γ1.1 q = γ.1 q := hC.2.2.2 q (by omega) (by omega) (by omega) (by rw [o2]; omega)
  have ea1 : γ1.1 a = γ.1 a := hC.2.2.2 a (by omega) (by omega) (by omega) (by rw [o7]; omega)
  refine ⟨q, a, s, cs, fr, kd, f, t, by rw [hC.2.1 7 (by decide)]; exact l1, ⟨by rw [CE_pk hC]; exact o1, by rw [eN]; exact o2, by rw [hC.2.1 q (by omega)]; exact o3, by rw [CE_pk hC]; exact o4, by rw [hC.2.1 q (by omega)]; exact o5, by rw [CE_pk hC]; exact o6, by rw [eN]; exact o7, by rw [eN]; exact o8, o9, o10, by rw [ea1]; exact o11⟩, ?_, by rw [eq1]; exact l4, ?_, l6⟩
  · unfold LTr live at *
    rw [hM.2.1 15 (by decide) (by decide) (by decide), hM.2.1 14 (by decide) (by decide) (by decide)]
    exact l3
  · unfold live at *
    rw [hM.2.1 10 (by decide) (by decide) (by decide), hM.2.1 11 (by decide) (by decide) (by decide), hM.2.1 12 (by decide) (by decide) (by decide)]
    exact l5
theorem fields_eq {γ : CS} {μ : MS} {p f lean d t hh : Nat} (h0 : γ.1 32 0 = nI lean) (h1 : γ.1 32 1 = nI (TN lean d t)) (h2 : γ.1 32 2 = μ.1 3 p) (h3 : γ.1 32 3 = nI d) (g3 : μ.1 4 p = nI d) (h4 : γ.1 32 4 = μ.1 5 p) (h5 : γ.1 32 5 = nI t) (g5 : μ.1 7 p = nI t) (h6 : γ.1 32 6 = nI hh) (g6 : μ.1 8 f = nI hh) (h7 : γ.1 32 7 = μ.1 9 f) : ∀ k, k < 8 → γ.1 32 k = fl μ p f (nI lean) (nI (TN lean d t)) k := by
  intro k hk
  rcases (show k = 0 ∨ k = 1 ∨ k = 2 ∨ k = 3 ∨ k = 4 ∨ k = 5 ∨ k = 6 ∨ k = 7 by omega) with rfl | rfl | rfl | rfl | rfl | rfl | rfl | rfl
  · exact h0
  · exact h1
  · exact h2
  · rw [h3]; exact g3.symm
  · exact h4
  · rw [h5]; exact g5.symm
  · rw [h6]; exact g6.symm
  · exact h7
/-- all that a tick of both tells -/
def TB (n : Nat) (γ γ1 : CS) (μ μ1 : MS) (nl p f lean tick stp : Nat) (V kd : Nat → Nat) (X lean1 en : Nat) : Prop := fc_X2_advance n γ = some (0, γ1) ∧ fm_goes n μ (nI stp) = some (nI en, μ1) ∧ CE γ γ1 ∧ ME μ μ1 ∧ MR γ1 μ1 nl p f lean1 (tick + stp) stp ∧ γ1.1 31 6 = nI en ∧ lean1 = lean - (sumV V 8 + X) * stp ∧ en = enD lean1 (sumV V 8 + X) (tick + stp) (lpB V kd 8) ∧ (∀ j, j < 8 → γ1.1 33 j = nI (V j)) ∧ (∀ j, j < nl → μ1.1 18 j = nI (prt V lean stp j)) ∧ (∀ j, V j ≤ 9999) ∧ (∀ j, nl ≤ j → V j = 0) ∧ (∀ k, k ≠ 26 → k ≠ 29 → k ≠ 34 → μ1.1 0 k = μ.1 0 k) ∧ (∀ k, 7 ≤ k → γ1.1 31 k = γ.1 31 k) ∧ γ1.2 = γ.2 ∧ ∃ d t, d ≤ 99 ∧ t ≤ 9 ∧ lean ≤ 9000 ∧ IN μ p f lean tick d t ∧ ∀ i, i < nl → stepM μ p f lean d t V kd i
theorem tick_both (n : Nat) {γ : CS} {μ : MS} {nl p f lean tick stp : Nat} (hn : 21 ≤ n) (hLL : LL γ μ nl) (hMR : MR γ μ nl p f lean tick stp) (htk : tick ≤ 9999) (hs1 : 1 ≤ stp) (hs2 : stp ≤ 10) : ∃ γ1 μ1 V kd X lean1 en, TB n γ γ1 μ μ1 nl p f lean tick stp V kd X lean1 en := by
  obtain ⟨hnl, c9, m21, hls⟩ := hLL
  obtain ⟨d, t, hh, ⟨hp, hf, hl, hd, ht, hhh⟩, hMD, hIN, ⟨f2, f4, f6, g6, f7⟩, ⟨hair, hring⟩, hset, hmore⟩ := hMR
  obtain ⟨m3, m4, m5, m8, q0, q1, q3, q5⟩ := id hMD
  obtain ⟨i25, i26, i27, i29, gD, gT, -, -⟩ := id hIN
  have hfl := fields_eq q0 q1 f2 q3 gD f4 q5 gT f6 g6 f7
  -- what each takes is the same in both
  have hsame : ∀ i, i < nl → ∀ q a s cs fr kd f0 t0, LSr γ 5 (live μ) i q a s cs fr kd f0 t0 → tv γ q cs = tvM μ p f lean d t (μ.1 10 i) (μ.1 11 i) (μ.1 12 i) cs := by
    intro i hi q a s cs fr kd f0 t0 hS
    obtain ⟨l1, l2, l3, ⟨l41, l42, l43⟩, ⟨l51, l52, l53⟩, l6⟩ := hS
    unfold tv tvM
    have r51 : μ.1 10 i = nI kd := l51
    have r52 : μ.1 11 i = nI f0 := l52
    have r53 : μ.1 12 i = nI t0 := l53
    rw [l41, l42, l43, r51, r52, r53, hair, hring, m4, m3, i26, f4, f6, g6, m5, i29, lw_congr hfl]
  have h : ∀ i, ∃ r : Nat × Nat, r.1 ≤ 9999 ∧ (nl ≤ i → r.1 = 0) ∧ (i < nl → (∃ q a s cs, γ.2.2.1 7 i = some q ∧ LOr γ q a s cs ∧ γ.1 q 0 = nI r.2 ∧ r.2 ≤ 6 ∧ ((bitI (γ.1 31 7) i = 0 ∧ r.1 = 0) ∨ (¬ bitI (γ.1 31 7) i = 0 ∧ tv γ q cs = nI r.1))) ∧ ∃ fr cs, LTr (live μ) i fr cs ∧ cs.length ≤ 19 ∧ dp cs 0 = some 1 ∧ μ.1 10 i = nI r.2 ∧ r.2 ≤ 6 ∧ ((bitI (μ.1 0 28) i = 0 ∧ r.1 = 0) ∨ (¬ bitI (μ.1 0 28) i = 0 ∧ tvM μ p f lean d t (μ.1 10 i) (μ.1 11 i) (μ.1 12 i) cs = nI r.1))) := by
    intro i
    by_cases hi : i < nl
    · obtain ⟨q, a, s, cs, fr, kd, f0, t0, hS⟩ := hls i hi
      have hv := hsame i hi q a s cs fr kd f0 t0 hS
      obtain ⟨l1, l2, l3, l4, l5, l6⟩ := hS
      have r51 : μ.1 10 i = nI kd := l5.1
      obtain ⟨m0, hm0, em0⟩ := lw_nI (γ.1 32) cs
      obtain ⟨m, hm, em⟩ : ∃ m : Nat, m ≤ 9999 ∧ tv γ q cs = nI m := by
        unfold tv
        rw [f6, em0]
        exact tkv_nI hhh hm0
      by_cases hb : bitI (γ.1 31 7) i = 0
      · exact ⟨(0, kd), by omega, fun _ => rfl, fun _ => ⟨⟨q, a, s, cs, l1, l2, l4.1, l6.1, Or.inl ⟨hb, rfl⟩⟩, fr, cs, l3, l2.2.2.2.2.2.2.2.2.1, l2.2.2.2.2.2.2.2.2.2.1, r51, l6.1, Or.inl ⟨(hset i hi).mp hb, rfl⟩⟩⟩
      · exact ⟨(m, kd), hm, fun h => absurd hi (by omega), fun _ => ⟨⟨q, a, s, cs, l1, l2, l4.1, l6.1, Or.inr ⟨hb, em⟩⟩, fr, cs, l3, l2.2.2.2.2.2.2.2.2.1, l2.2.2.2.2.2.2.2.2.2.1, r51, l6.1, Or.inr ⟨fun h => hb ((hset i hi).mpr h), hv.symm.trans em⟩⟩⟩
    · exact ⟨(0, 0), by omega, fun _ => rfl, fun h => absurd h hi⟩
  obtain ⟨F, hF⟩ := Classical.axiomOfChoice h
  have hstC : ∀ i, i < nl → stepC γ (fun i => (F i).1) (fun i => (F i).2) i := fun i hi => ((hF i).2.2 hi).1
  have hstM : ∀ i, i < nl → stepM μ p f lean d t (fun i => (F i).1) (fun i => (F i).2) i := fun i hi => ((hF i).2.2 hi).2
  have hV : ∀ i, (fun i => (F i).1) i ≤ 9999 := fun i => (hF i).1
  have hV0 : ∀ i, nl ≤ i → (fun i => (F i).1) i = 0 := fun i hi => (hF i).2.1 hi
  -- the one more
  have hmo : ∃ X, X ≤ 9999 ∧ moreC γ tick X ∧ moreM μ p f lean d t nl X := by
    rcases hmore with ⟨e1, e2⟩ | ⟨i, mf, q, hi, e1, e2, e3, e4, e5, e6⟩
    · exact ⟨0, by omega, Or.inl ⟨e1, rfl⟩, Or.inl ⟨e2, rfl⟩⟩
    · obtain ⟨q', a, s, cs, fr, kd, f0, t0, l1, l2, l3, l4, l5, l6⟩ := hls i hi
      have hqq : q' = q := Option.some.inj (l1.symm.trans e2)
      subst hqq
      obtain ⟨m0, hm0, em0⟩ := lw_nI (γ.1 32) cs
      have elw : lw (fl μ p f (nI lean) (nI (TN lean d t))) cs = nI m0 := by rw [← lw_congr hfl]; exact em0
      by_cases hlt : tick < mf
      · refine ⟨0, by omega, Or.inr ⟨q', a, s, cs, mf, e1, l2, e4, e6, Or.inl ⟨hlt, rfl⟩⟩, Or.inr ⟨i, fr, cs, hi, e3, l3, l2.2.2.2.2.2.2.2.2.1, l2.2.2.2.2.2.2.2.2.2.1, ?_⟩⟩
        unfold tvM tkv
        rw [if_neg (by decide), if_neg (by decide), if_neg (by decide), if_neg (by decide), if_pos rfl, if_pos (by rw [i29, e5]; exact nI_lt hlt (by omega))]
        rfl
      · by_cases h99 : tick ≤ 9999
        · refine ⟨m0, hm0, Or.inr ⟨q', a, s, cs, mf, e1, l2, e4, e6, Or.inr ⟨by omega, em0⟩⟩, Or.inr ⟨i, fr, cs, hi, e3, l3, l2.2.2.2.2.2.2.2.2.1, l2.2.2.2.2.2.2.2.2.2.1, ?_⟩⟩
          unfold tvM tkv
          rw [if_neg (by decide), if_neg (by decide), if_neg (by decide), if_neg (by decide), if_pos rfl, if_neg (by rw [i29, e5]; exact nI_nlt (by omega) (by omega)), if_neg (by rw [i29]; exact nI_nlt (a := 9999) (by omega) (by omega))]
          exact elw
        · exact absurd htk h99
  obtain ⟨X, hX, hmC, hmM⟩ := hmo
  obtain ⟨γ1, a1, aC, a33, ⟨a3, a4, a5, a6⟩, a31, ⟨b0, b1⟩, b32, a2⟩ := adv_eq n γ hn hnl c9 hstC hV hV0 hMD hl (by omega) hs2 hd ht hmC hX
  obtain ⟨μ1, d1, dM, d26, d29, dk, d18⟩ := goes_eq n μ hn hnl m21 hIN hstM hmM hV hV0 hX hl (by omega) hs1 hs2 hd ht
  have e3 : μ1.1 3 = μ.1 3 := dM.2.1 3 (by decide) (by decide) (by decide)
  have e4' : μ1.1 4 = μ.1 4 := dM.2.1 4 (by decide) (by decide) (by decide)
  have e5' : μ1.1 5 = μ.1 5 := dM.2.1 5 (by decide) (by decide) (by decide)
  have e6' : μ1.1 6 = μ.1 6 := dM.2.1 6 (by decide) (by decide) (by decide)
  have e7' : μ1.1 7 = μ.1 7 := dM.2.1 7 (by decide) (by decide) (by decide)
  have e8' : μ1.1 8 = μ.1 8 := dM.2.1 8 (by decide) (by decide) (by decide)
  have e9' : μ1.1 9 = μ.1 9 := dM.2.1 9 (by decide) (by decide) (by decide)
  refine ⟨γ1, μ1, fun i => (F i).1, fun i => (F i).2, X, _, _, a1, d1, aC, dM, ?_, a6, rfl, rfl, a33, d18, hV, hV0, dk, a31, a2, d, t, hd, ht, hl, hIN, hstM⟩
  refine ⟨d, t, hh, ⟨hp, hf, by omega, hd, ht, hhh⟩, ⟨a3, a4, a5, (a31 8 (by omega)).trans m8, b0, b1, (b32 3 (by omega)).trans q3, (b32 5 (by omega)).trans q5⟩, ⟨(dk 25 (by decide) (by decide) (by decide)).trans i25, d26, (dk 27 (by decide) (by decide) (by decide)).trans i27, d29, by rw [e4']; exact gD, by rw [e7']; exact gT, hp, hf⟩, ⟨by rw [b32 2 (by omega), e3]; exact f2, by rw [b32 4 (by omega), e5']; exact f4, by rw [b32 6 (by omega)]; exact f6, by rw [e8']; exact g6, by rw [b32 7 (by omega), e9']; exact f7⟩, ⟨by rw [a31 9 (by omega), dk 30 (by decide) (by decide) (by decide)]; exact hair, by rw [a31 10 (by omega), e6']; exact hring⟩, fun i hi => by rw [a31 7 (by omega), dk 28 (by decide) (by decide) (by decide)]; exact hset i hi, ?_⟩
  rcases hmore with ⟨e1, e2⟩ | ⟨i, mf, q, hi, e1, e2, e3, e4, e5, e6⟩
  · exact Or.inl ⟨by rw [a2]; exact e1, by rw [dk 31 (by decide) (by decide) (by decide)]; exact e2⟩
  · exact Or.inr ⟨i, mf, q, hi, by rw [a2]; exact e1, by rw [a2]; exact e2, by rw [dk 31 (by decide) (by decide) (by decide)]; exact e3, by rw [a31 12 (by omega)]; exact e4, by rw [dk 32 (by decide) (by decide) (by decide)]; exact e5, e6⟩
