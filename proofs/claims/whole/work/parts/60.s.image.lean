section
/-! THE IMAGE, in both -/
theorem kpV {a k : Nat} (h : okV a k) : ∃ l, (a, offA a, l) ∈ kpL ∧ k < l := by
  have hc : a = 3 ∨ a = 4 ∨ a = 5 ∨ a = 6 ∨ a = 7 ∨ a = 8 ∨ a = 9 ∨ a = 10 ∨ a = 11 ∨ a = 12 ∨ a = 13 ∨ a = 14 ∨ a = 15 ∨ a = 19 ∨ a = 20 ∨ a = 21 ∨ a = 22 ∨ a = 23 := by unfold okV at h; omega
  unfold okV at h
  rcases hc with rfl | rfl | rfl | rfl | rfl | rfl | rfl | rfl | rfl | rfl | rfl | rfl | rfl | rfl | rfl | rfl | rfl | rfl
  · exact ⟨7, by decide, by omega⟩
  · exact ⟨7, by decide, by omega⟩
  · exact ⟨7, by decide, by omega⟩
  · exact ⟨7, by decide, by omega⟩
  · exact ⟨7, by decide, by omega⟩
  · exact ⟨4, by decide, by omega⟩
  · exact ⟨4, by decide, by omega⟩
  · exact ⟨9, by decide, by omega⟩
  · exact ⟨9, by decide, by omega⟩
  · exact ⟨9, by decide, by omega⟩
  · exact ⟨9, by decide, by omega⟩
  · exact ⟨300, by decide, by omega⟩
  · exact ⟨10, by decide, by omega⟩
  · exact ⟨100, by decide, by omega⟩
  · exact ⟨100, by decide, by omega⟩
  · exact ⟨24, by decide, by omega⟩
  · exact ⟨4, by decide, by omega⟩
  · exact ⟨4, by decide, by omega⟩
theorem kpK {k : Nat} (h : okS k) : (k, offS k) ∈ kpS := by
  have hc : k = 11 ∨ k = 12 ∨ k = 21 ∨ k = 38 ∨ k = 39 ∨ k = 40 ∨ k = 41 ∨ k = 42 ∨ k = 43 ∨ k = 44 ∨ k = 45 ∨ k = 48 ∨ k = 49 ∨ k = 52 := by unfold okS at h; omega
  rcases hc with rfl | rfl | rfl | rfl | rfl | rfl | rfl | rfl | rfl | rfl | rfl | rfl | rfl | rfl <;> decide
theorem kpL_no {a : Nat} (h : a = 1 ∨ a = 2 ∨ a = 24) : ∀ p ∈ kpL, p.1 ≠ a := by
  rcases h with rfl | rfl | rfl <;> decide
theorem kpS_no {k : Nat} (h : k = 9 ∨ k = 54) : ∀ p ∈ kpS, p.1 ≠ k := by
  rcases h with rfl | rfl <;> decide
theorem zb_of {x : Int32} (h : x = 0 ∨ x = 1) : zb x = true := by
  rcases h with rfl | rfl <;> decide
theorem zb_sp {γ : CS} {b : Nat} {v : VW} (H : RB γ b v) : zb (γ.1 (b + 7) 0) = true ∧ zb (γ.1 b 11) = true := by
  obtain ⟨np, nl, ng, H⟩ := H
  exact ⟨zb_of H.2.2.2.2.2.2.2.2.2.2.1.2.1, zb_of H.2.2.2.2.1.2⟩
theorem s_image (n : Nat) (hn : 1000 ≤ n) : st_image n Rl := by
  intro γ μ H
  show OK _ _
  obtain ⟨h1, h2, h3, h4, h5, h6, h7, h8⟩ := H
  have hz := zb_sp h4
  obtain ⟨γ1, r1, r2, r3, r4, r5, r6, r7⟩ := cpA_18 n hn h3 hz.1 hz.2
  have q54 : ∀ k, k ≠ 54 → k ≠ 55 → (mp (mp μ 0 55 1) 0 54 1).1 0 k = μ.1 0 k := fun k x y => by rw [mp_1, if_neg (by omega), mp_1, if_neg (by omega)]
  have qA : ∀ a, a ≠ 0 → (mp (mp μ 0 55 1) 0 54 1).1 a = μ.1 a := fun a x => by rw [mp_ne _ _ _ _ x, mp_ne _ _ _ _ x]
  obtain ⟨μ1, k1, k2, k3, k4, k5, k6, k7, k8⟩ := keep_all n hn (μ0 := mp (mp μ 0 55 1) 0 54 1) (by rw [mp_1, if_neg (by omega), mp_1, if_pos ⟨rfl, rfl⟩])
  have eM : ∀ b, b ≠ 0 → b ≠ 24 → μ1.1 b = μ.1 b := fun b x y => (k7 b x y).trans (qA b x)
  have eS : ∀ k, k ≠ 54 → k ≠ 55 → k ≠ 56 → μ1.1 0 k = μ.1 0 k := fun k x y z => (k8 k z).trans (q54 k x y)
  obtain ⟨np, nl, ng, HB⟩ := id h4
  have e8 : γ1.1 5 8 = γ.1 5 8 := by rw [(r4 5 (by omega)).1]
  have eI : ∀ a, a ≠ 0 → (cp γ1 0 5 1).1 a = γ1.1 a := fun a x => cp_ne _ _ _ _ x
  have hPO : PO γ1 (cp γ1 0 5 1) := PO_cp γ1 (by omega) 5 1
  have c18 : CV γ 5 (cp γ1 0 5 1) 18 := ⟨r2.1.tr hPO, r2.2.1, r2.2.2.1, fun c i h => (show (cp γ1 0 5 1).1 (18 + c) i = _ by rw [eI _ (by omega)]; exact r2.2.2.2.1 c i h), r2.2.2.2.2⟩
  have c5 : CV γ 5 (cp γ1 0 5 1) 5 := CV_id 5 (r2.1.tr hPO) (r4 _ (by omega)).2.2 (r4 _ (by omega)).2.2 (fun c hc => by rw [eI _ (by omega)]; exact (r4 _ (by omega)).1) (r4 _ (by omega)).2.1
  refine OK_cm (F1 := some (γ.1 5 8, cp γ1 0 5 1)) (G1 := some (μ.1 0 11, mq μ1 57 (μ1.2 46))) (bd_g r1 (sq_g (by rw [eI _ (by decide), e8]))) (sq_g (sq_g (bd_g k1 (sq_g (by rw [mq_1, eS 11 (by decide) (by decide) (by decide)]))))) ?_
  refine OK_ret (by rw [show γ.1 5 8 = nI np from HB.2.1.1]; exact HB.2.1.2.symm) ?_
  refine ⟨by show 34 ≤ γ1.2.2.2.2.2; rw [r3]; exact h1, ?_, ?_, RB_move c5 ⟨fun a k h => ?_, fun k h => ?_, ?_⟩ h4, ?_, ?_, ?_, fun _ => RB_move c18 ⟨fun a k h => ?_, fun k h => ?_, ?_⟩ h4⟩
  · intro a x q h
    show q < γ1.2.2.2.2.2
    rw [r3]
    have h : γ1.2.2.1 a x = some q := h
    by_cases e : a = 19
    · subst e
      rcases r6 x with e | e
      · exact h2 6 x q (e.symm.trans h)
      · exact h2 19 x q (e.symm.trans h)
    by_cases e2 : a = 20
    · subst e2
      rcases r7 x with e | e
      · exact h2 7 x q (e.symm.trans h)
      · exact h2 20 x q (e.symm.trans h)
    rw [r5 a e e2] at h
    exact h2 a x q h
  · intro i q
    have ep : ∀ k, pk (cp γ1 0 5 1) q k = pk γ q k := fun k => by
      show pk γ1 q k = pk γ q k
      unfold pk; rw [r3]
    refine ⟨fun h => ?_, fun h => ?_, fun h => ?_, fun h => ?_⟩
    · have h : γ1.2.2.1 6 i = some q := h
      rw [r5 6 (by decide) (by decide)] at h
      rw [ep]; exact (h3 i q).1 h
    · have h : γ1.2.2.1 19 i = some q := h
      rw [ep]
      rcases r6 i with e | e
      · exact (h3 i q).1 (e.symm.trans h)
      · exact (h3 i q).2.1 (e.symm.trans h)
    · have h : γ1.2.2.1 7 i = some q := h
      rw [r5 7 (by decide) (by decide)] at h
      rw [ep]; exact (h3 i q).2.2.1 h
    · have h : γ1.2.2.1 20 i = some q := h
      rw [ep]
      rcases r7 i with e | e
      · exact (h3 i q).2.2.1 (e.symm.trans h)
      · exact (h3 i q).2.2.2 (e.symm.trans h)
  · show μ1.1 a k = μ.1 a k
    rw [eM a (by unfold okV at h; omega) (by unfold okV at h; omega)]
  · exact eS k (by unfold okS at h; omega) (by unfold okS at h; omega) (by unfold okS at h; omega)
  · show (mq μ1 57 (μ1.2 46)).2 46 = μ.2 46
    rw [mq_2, if_neg (by decide), k2]; rfl
  · obtain ⟨len, g1, g2, g3⟩ := h5
    refine ⟨len, g1, ?_, ?_⟩
    · rw [eI 1 (by decide), (r4 1 (by omega)).1]
      show γ.1 1 2 = nI len ∧ μ1.1 0 9 = nI len
      rw [eS 9 (by decide) (by decide) (by decide)]; exact g2
    · rw [eI 2 (by decide), (r4 2 (by omega)).1]
      show ∀ i, i < len → γ.1 2 i = μ1.1 2 i ∧ _
      rw [eM 2 (by decide) (by decide)]; exact g3
  · intro k a b
    rw [eI 4 (by decide), (r4 4 (by omega)).1]
    show γ.1 4 k = μ1.1 1 k
    rw [eM 1 (by decide) (by decide)]; exact h6 k a b
  · have e1 : (cp γ1 0 5 1).1 0 5 = 1 := by rw [cp_1, if_pos ⟨rfl, rfl⟩]
    have e2 : μ1.1 0 54 = 1 := by rw [k8 54 (by decide), mp_1, if_pos ⟨rfl, rfl⟩]
    exact ⟨e1.trans e2.symm, Or.inr e1⟩
  · obtain ⟨l, m1, m2⟩ := kpV h
    show μ1.1 24 (offA a + k) = μ.1 a k
    rw [(k5 _ m1).2 k m2, qA a (by unfold okV at h; omega)]
  · show μ1.1 24 (offS k) = μ.1 0 k
    rw [(k6 _ (kpK h)).2, q54 k (by unfold okS at h; omega) (by unfold okS at h; omega)]
  · show (mq μ1 57 (μ1.2 46)).2 57 = μ.2 46
    rw [mq_2, if_pos rfl, k2]; rfl
theorem s_restore (n : Nat) (hn : 1000 ≤ n) : st_restore n Rl := by
  intro γ μ H
  show OK _ _
  obtain ⟨h1, h2, h3, h4, h5, h6, h7, h8⟩ := id H
  unfold fc_X7_restore fm_restore
  rcases h7.2 with c | c
  · exact OK_cm (if_t c rfl) (if_t (by rw [← h7.1]; exact c) rfl) (OK_3 H)
  have h18 := h8 c
  have hz := zb_sp h18
  obtain ⟨γ1, r1, r2, r3, r4, r5, r6, r7⟩ := cpA_5 n hn h3 hz.1 hz.2
  have q55 : ∀ k, k ≠ 55 → (mp μ 0 55 0).1 0 k = μ.1 0 k := fun k x => by rw [mp_1, if_neg (by omega)]
  have qA : ∀ a, a ≠ 0 → (mp μ 0 55 0).1 a = μ.1 a := fun a x => mp_ne _ _ _ _ x
  obtain ⟨μ1, k1, k2, k3, k4, k5, k6, k7, k8⟩ := back_all n hn (μ0 := mp μ 0 55 0) (by rw [mp_1, if_pos ⟨rfl, rfl⟩])
  have eM : ∀ b, (b = 1 ∨ b = 2 ∨ b = 24) → μ1.1 b = μ.1 b := fun b x => (k7 b (by omega) (kpL_no x)).trans (qA b (by omega))
  have eS : ∀ k, (k = 9 ∨ k = 54) → μ1.1 0 k = μ.1 0 k := fun k x => (k8 k (by omega) (kpS_no x)).trans (q55 k (by omega))
  have eV : ∀ a k, okV a k → μ1.1 a k = μ.1 24 (offA a + k) := fun a k h => by
    obtain ⟨l, m1, m2⟩ := kpV h
    rw [(k5 _ m1).2 k m2, qA 24 (by decide)]
  have eK : ∀ k, okS k → μ1.1 0 k = μ.1 24 (offS k) := fun k h => by
    rw [(k6 _ (kpK h)).2, qA 24 (by decide)]
  obtain ⟨np, nl, ng, HB⟩ := id h18
  have e8 : γ1.1 5 8 = γ.1 18 8 := r2.2.2.2.1 0 8 (by unfold okC; omega)
  have c18 : CV γ 18 γ1 18 := CV_id 18 r2.1 (r4 _ (by omega)).2.2 (r4 _ (by omega)).2.2 (fun c hc => (r4 _ (by omega)).1) (r4 _ (by omega)).2.1
  refine OK_cm (F1 := some (γ.1 18 8, γ1)) (G1 := some (μ.1 24 621, mq μ1 46 (μ1.2 57))) (if_f (by rw [c]; exact one_ne) (bd_g r1 (by rw [e8]))) (if_f (by rw [← h7.1, c]; exact one_ne) (sq_g (bd_g k1 (sq_g (by rw [mq_1, eK 11 (by unfold okS; omega)]; rfl))))) ?_
  refine OK_ret (by rw [show γ.1 18 8 = nI np from HB.2.1.1]; exact HB.2.1.2.symm) ?_
  refine ⟨by rw [r3]; exact h1, ?_, ?_, RB_move (v := img μ) r2 ⟨fun a k h => eV a k h, fun k h => eK k h, ?_⟩ h18, ?_, ?_, ?_, fun _ => RB_move c18 (VV_img (eM 24 (by omega)) (by rw [mq_2, if_neg (by decide), k2]; rfl)) h18⟩
  · intro a x q h
    rw [r3]
    by_cases e : a = 6
    · subst e
      rcases r6 x with e | e
      · exact h2 19 x q (e.symm.trans h)
      · exact h2 6 x q (e.symm.trans h)
    by_cases e2 : a = 7
    · subst e2
      rcases r7 x with e | e
      · exact h2 20 x q (e.symm.trans h)
      · exact h2 7 x q (e.symm.trans h)
    rw [r5 a e e2] at h
    exact h2 a x q h
  · intro i q
    have ep : ∀ k, pk γ1 q k = pk γ q k := fun k => by
      unfold pk; rw [r3]
    refine ⟨fun h => ?_, fun h => ?_, fun h => ?_, fun h => ?_⟩
    · rw [ep]
      rcases r6 i with e | e
      · exact (h3 i q).2.1 (e.symm.trans h)
      · exact (h3 i q).1 (e.symm.trans h)
    · rw [r5 19 (by decide) (by decide)] at h
      rw [ep]; exact (h3 i q).2.1 h
    · rw [ep]
      rcases r7 i with e | e
      · exact (h3 i q).2.2.2 (e.symm.trans h)
      · exact (h3 i q).2.2.1 (e.symm.trans h)
    · rw [r5 20 (by decide) (by decide)] at h
      rw [ep]; exact (h3 i q).2.2.2 h
  · show (mq μ1 46 (μ1.2 57)).2 46 = μ.2 57
    rw [mq_2, if_pos rfl, k2]; rfl
  · obtain ⟨len, g1, g2, g3⟩ := h5
    refine ⟨len, g1, ?_, ?_⟩
    · rw [(r4 1 (by omega)).1]
      show γ.1 1 2 = nI len ∧ μ1.1 0 9 = nI len
      rw [eS 9 (by omega)]; exact g2
    · rw [(r4 2 (by omega)).1]
      show ∀ i, i < len → γ.1 2 i = μ1.1 2 i ∧ _
      rw [eM 2 (by omega)]; exact g3
  · intro k a b
    rw [(r4 4 (by omega)).1]
    show γ.1 4 k = μ1.1 1 k
    rw [eM 1 (by omega)]; exact h6 k a b
  · rw [(r4 0 (by omega)).1]
    show γ.1 0 5 = μ1.1 0 54 ∧ _
    rw [eS 54 (by omega)]; exact h7
end
