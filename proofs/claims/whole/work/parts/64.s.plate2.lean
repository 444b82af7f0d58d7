section
theorem plN_I (γ : CS) (w d e h t : Nat) {a : Nat} (ha : a ≠ γ.2.2.2.2.2) : (plN γ w d e h t).1 a = γ.1 a := by
  unfold plN
  rw [cp_ne _ _ _ _ ha, cp_ne _ _ _ _ ha, cp_ne _ _ _ _ ha, cp_ne _ _ _ _ ha, cp_ne _ _ _ _ ha]
  exact va_up_ne _ _ ha
theorem plN_v (γ : CS) (w d e h t : Nat) : (plN γ w d e h t).1 γ.2.2.2.2.2 0 = nI w ∧ (plN γ w d e h t).1 γ.2.2.2.2.2 1 = nI d ∧ (plN γ w d e h t).1 γ.2.2.2.2.2 2 = nI e ∧ (plN γ w d e h t).1 γ.2.2.2.2.2 3 = nI h ∧ (plN γ w d e h t).1 γ.2.2.2.2.2 4 = nI t := by
  unfold plN
  refine ⟨?_, ?_, ?_, ?_, ?_⟩ <;> simp [cp_1]
theorem plM_ne (μ : MS) (i w d e h t : Nat) {a : Nat} (ha : ¬ (3 ≤ a ∧ a ≤ 7)) : (plM μ i w d e h t).1 a = μ.1 a := by
  unfold plM
  rw [mp_ne _ _ _ _ (by omega), mp_ne _ _ _ _ (by omega), mp_ne _ _ _ _ (by omega), mp_ne _ _ _ _ (by omega), mp_ne _ _ _ _ (by omega)]
theorem plM_k (μ : MS) (i w d e h t : Nat) (a : Nat) {k : Nat} (hk : k ≠ i) : (plM μ i w d e h t).1 a k = μ.1 a k := by
  unfold plM
  rw [mp_1, if_neg (by omega), mp_1, if_neg (by omega), mp_1, if_neg (by omega), mp_1, if_neg (by omega), mp_1, if_neg (by omega)]
theorem plM_v (μ : MS) (i w d e h t : Nat) : (plM μ i w d e h t).1 3 i = nI w ∧ (plM μ i w d e h t).1 4 i = nI d ∧ (plM μ i w d e h t).1 5 i = nI e ∧ (plM μ i w d e h t).1 6 i = nI h ∧ (plM μ i w d e h t).1 7 i = nI t := by
  unfold plM
  refine ⟨?_, ?_, ?_, ?_, ?_⟩ <;> simp [mp_1]
theorem s_plate (n : Nat) (hn : 10 ≤ n) : st_plate n Rl := by
  intro γ μ H
  show OK _ _
  obtain ⟨np, nl, ng, HB⟩ := H.2.2.2.1
  have b8 : γ.1 5 8 = nI np := HB.2.1.1
  have b11 : μ.1 0 11 = nI np := HB.2.1.2
  have hnp := HB.1.1
  unfold fc_X7_plate fm_plate
  by_cases c6 : np = 6
  · subst c6
    exact OK_cm (if_f (by rw [b8]; exact nI_nlt (a := 6) (b := 6) (by omega) (by omega)) rfl) (if_t b11 rfl) (OK_noA 6 H (by decide) (by decide))
  have lt6 : γ.1 5 8 < 6 := by rw [b8]; exact nI_lt (b := 6) (by omega) (by omega)
  have ne6 : ¬ μ.1 0 11 = 6 := by rw [b11]; exact fun h => c6 ((nI_eq (b := 6) (by omega) (by omega)).mp h)
  obtain ⟨L, B, hT, t1, t2, t3⟩ := txt_of H.2.2.2.2.1
  rcases readPlate_both n hn hT H.2.1 H.1 t1.1 t2 t1.2 t3 (np := np) (by omega) b11 with ⟨w, d, e, h, t, γ1, μ1, q1, q2, q3, q4, q5⟩ | ⟨f, γ1, μ1, q1, q2, q3, q4, q5, q6, q7⟩
  · have n1 : γ1.2.2.2.2.2 = γ.2.2.2.2.2 := TX_n q3
    have h34 := H.1
    obtain ⟨n0, en0⟩ : ∃ z, z = γ.2.2.2.2.2 := ⟨_, rfl⟩
    rw [← en0] at n1 h34 q2
    obtain ⟨γ2, e2⟩ : ∃ z, z = plN γ1 w d e h t := ⟨_, rfl⟩
    have g22 : γ2.2.2.2.2.2 = n0 + 1 := by rw [e2, ← n1]; rfl
    have gI : ∀ a, a ≠ n0 → γ2.1 a = γ1.1 a := fun a ha => by rw [e2]; exact plN_I γ1 w d e h t (by rw [n1]; exact ha)
    have gV := plN_v γ1 w d e h t
    rw [← e2, n1] at gV
    have gJ : γ2.2.1 = γ.2.1 := by rw [e2, ← q3.1]; rfl
    have gP : ∀ a, a ≠ n0 → γ2.2.2.1 a = γ.2.2.1 a := fun a ha => by
      rw [e2, ← q3.1]
      exact va_up_ne _ _ (by rw [n1]; exact ha)
    have gP0 : γ2.2.2.1 n0 = fun _ => none := by
      rw [e2, ← n1]
      show va_up γ1.2.2.1 γ1.2.2.2.2.2 _ γ1.2.2.2.2.2 = _
      simp [va_up]
    have gN : γ2.2.2.2.2.1 n0 = 0 := by
      rw [e2, ← n1]
      show va_up γ1.2.2.2.2.1 γ1.2.2.2.2.2 _ γ1.2.2.2.2.2 = _
      simp [va_up]
    have gk : pk γ2 n0 3 = true := by
      rw [e2, ← n1]
      exact pk_new γ1 (by rw [n1]; exact h34) 3 0 (fun _ => 0) (fun _ => none)
    have gPO : PO γ γ2 := fun q k hq => by
      obtain ⟨x1, x2, x3⟩ := pk_s hq
      have hne : q ≠ n0 := by omega
      have hq1 : pk γ1 q k = true := by unfold pk at *; rw [q3.1]; exact hq
      obtain ⟨y1, y2, y3, y4⟩ := PO_cnw γ1 3 0 (fun _ => 0) (fun _ => none) q k hq1
      refine ⟨by rw [e2]; exact y1, ?_, gP q hne, fun _ => by rw [gI q hne]; exact q3.2.1 q (by omega) (by omega)⟩
      rw [e2]
      exact y2.trans (by rw [q3.1])
    rw [← e2] at q2
    clear e2
    obtain ⟨μ2, m2⟩ : ∃ z, z = plM μ1 np w d e h t := ⟨_, rfl⟩
    have mI : ∀ a, ¬ (3 ≤ a ∧ a ≤ 7) → μ2.1 a = μ1.1 a := fun a ha => by rw [m2]; exact plM_ne μ1 np w d e h t ha
    have mK : ∀ a k, k ≠ np → μ2.1 a k = μ1.1 a k := fun a k hk => by rw [m2]; exact plM_k μ1 np w d e h t a hk
    have mV := plM_v μ1 np w d e h t
    have mJ : μ2.2 = μ.2 := by rw [m2, ← q5.1]; rfl
    rw [← m2] at mV q4
    clear m2
    have e8 : (cp γ2 1 2 0).1 5 8 = nI np := by rw [cp_ne _ _ _ _ (by decide), gI 5 (by omega), q3.2.1 5 (by decide) (by decide)]; exact b8
    have e11 : (mp μ2 0 9 0).1 0 11 = nI np := by rw [mp_1, if_neg (by omega), mI 0 (by omega), q5.2.2 11 (by decide)]; exact b11
    have hadd : fc_X0_addPlate n (cp γ2 1 2 0) n0 = some (nI np, cp (cpp (cp γ2 1 2 0) 6 np (some n0)) 5 8 (nI (np + 1))) := by
      unfold fc_X0_addPlate
      refine sq_r (x1 := nI np) e8 (if_f (nI_pos (by omega)) (if_f (nI_ge (b := 6) (by omega) (by omega)) (ck_g gk (ck_g (ib_nI (by omega) (by omega)) (sq_r (x1 := cpp (cp γ2 1 2 0) 6 np (some n0)) (by rw [nI_clamp (by omega)]) (sq_r (x1 := cp (cpp (cp γ2 1 2 0) 6 np (some n0)) 5 8 (nI (np + 1))) ?_ rfl))))))
      rw [cpp_1, e8, nI_1]
    refine OK_cm (F1 := some (nI np, cp (cpp (cp γ2 1 2 0) 6 np (some n0)) 5 8 (nI (np + 1)))) (G1 := some (nI np, mp (mp μ2 0 9 0) 0 11 (nI (np + 1)))) (if_t lt6 (bd_g q2 (ck_g (dec_t (by rw [g22, ← en0]; omega)) (oc_gs rfl (sq_g (bd_g hadd (ck_g (dec_t (Nat.le_refl _)) rfl))))))) (if_f ne6 (bd_g q4 (sq_g (if_f one_ne (sq_r (x1 := mp (mp μ2 0 9 0) 0 11 (nI (np + 1))) (by rw [e11, nI_1]) (by rw [mp_1, if_pos ⟨rfl, rfl⟩, nI_sub1])))))) (OK_ret rfl ?_)
    obtain ⟨γ3, e3⟩ : ∃ z, z = cp (cpp (cp γ2 1 2 0) 6 np (some n0)) 5 8 (nI (np + 1)) := ⟨_, rfl⟩
    have i3 : ∀ a, a ≠ 1 → a ≠ 3 → a ≠ 5 → a ≠ n0 → γ3.1 a = γ.1 a := fun a x1 x2 x3 x4 => by
      rw [e3, cp_ne _ _ _ _ x3, cpp_1, cp_ne _ _ _ _ x1, gI a x4]; exact q3.2.1 a x1 x2
    have i5 : ∀ k, k ≠ 8 → γ3.1 5 k = γ.1 5 k := fun k hk => by
      rw [e3, cp_1, if_neg (by omega), cpp_1, cp_ne _ _ _ _ (by decide), gI 5 (by omega), q3.2.1 5 (by decide) (by decide)]
    have i58 : γ3.1 5 8 = nI (np + 1) := by rw [e3, cp_1, if_pos ⟨rfl, rfl⟩]
    have i12 : γ3.1 1 2 = 0 := by rw [e3, cp_ne _ _ _ _ (by decide), cpp_1, cp_1, if_pos ⟨rfl, rfl⟩]
    have i0 : γ3.1 n0 = γ2.1 n0 := by rw [e3, cp_ne _ _ _ _ (by omega), cpp_1, cp_ne _ _ _ _ (by omega)]
    have j3 : γ3.2.1 = γ.2.1 := by rw [e3, ← gJ]; rfl
    have p3 : ∀ a, a ≠ 6 → γ3.2.2.1 a = γ2.2.2.1 a := fun a ha => by rw [e3]; exact va_up_ne _ _ ha
    have p6 : ∀ j, j ≠ np → γ3.2.2.1 6 j = γ.2.2.1 6 j := fun j hj => by
      rw [← gP 6 (by omega), e3]
      show (cpp (cp γ2 1 2 0) 6 np (some n0)).2.2.1 6 j = _
      rw [cpp_3, if_neg (by omega)]; rfl
    have p6n : γ3.2.2.1 6 np = some n0 := by
      rw [e3]
      show (cpp (cp γ2 1 2 0) 6 np (some n0)).2.2.1 6 np = _
      rw [cpp_3, if_pos ⟨rfl, rfl⟩]
    have k3 : γ3.2.2.2 = γ2.2.2.2 := by rw [e3]; rfl
    have pk3 : ∀ q k, pk γ3 q k = pk γ2 q k := fun q k => by unfold pk; rw [k3]
    have hPO : PO γ γ3 := fun q k hq => by
      obtain ⟨x1, x2, x3⟩ := pk_s hq
      obtain ⟨y1, y2, y3, y4⟩ := gPO q k hq
      exact ⟨by rw [pk3]; exact y1, by rw [k3]; exact y2, by rw [p3 q (by omega)]; exact y3, fun _ => i3 q (by omega) (by omega) (by omega) (by omega)⟩
    obtain ⟨μ3, f3⟩ : ∃ z, z = mp (mp μ2 0 9 0) 0 11 (nI (np + 1)) := ⟨_, rfl⟩
    rw [← e3, ← f3]
    have l3 : ∀ a, a ≠ 0 → μ3.1 a = μ2.1 a := fun a ha => by rw [f3, mp_ne _ _ _ _ ha, mp_ne _ _ _ _ ha]
    have l0 : ∀ k, k ≠ 9 → k ≠ 10 → k ≠ 11 → μ3.1 0 k = μ.1 0 k := fun k x1 x2 x3 => by
      rw [f3, mp_1, if_neg (by omega), mp_1, if_neg (by omega), mI 0 (by omega)]; exact q5.2.2 k x2
    have l11 : μ3.1 0 11 = nI (np + 1) := by rw [f3, mp_1, if_pos ⟨rfl, rfl⟩]
    have l9 : μ3.1 0 9 = 0 := by rw [f3, mp_1, if_neg (by omega), mp_1, if_pos ⟨rfl, rfl⟩]
    have lA : ∀ a, a ≠ 0 → ¬ (3 ≤ a ∧ a ≤ 7) → μ3.1 a = μ.1 a := fun a x1 x2 => by rw [l3 a x1, mI a x2]; exact q5.2.1 a x1
    have lK : ∀ a k, a ≠ 0 → k ≠ np → μ3.1 a k = μ.1 a k := fun a k x1 x2 => by rw [l3 a x1, mK a k x2, q5.2.1 a x1]
    have lJ : μ3.2 = μ.2 := by rw [f3, ← mJ]; rfl
    refine Rl_gr H (by rw [k3, g22]; omega) ?_ ?_ hPO (fun a x y => i3 a (by omega) (by omega) (by omega) (by omega)) (by rw [p3 19 (by decide), gP 19 (by omega)]) (by rw [p3 20 (by decide), gP 20 (by omega)]) (by rw [j3]) (lA 24 (by decide) (by omega)) (by rw [lJ]) (by rw [i3 0 (by decide) (by decide) (by decide) (by omega)]) (l0 54 (by decide) (by decide) (by decide)) (TXr_0 i12 l9) (i3 4 (by decide) (by decide) (by decide) (by omega)) (lA 1 (by decide) (by omega)) ⟨np + 1, nl, ng, ?_⟩
    · intro a x q hq
      rw [k3, g22]
      by_cases c1 : a = 6
      · subst c1
        by_cases c2 : x = np
        · subst c2
          rw [p6n] at hq
          cases hq
          omega
        · rw [p6 x c2] at hq
          have := H.2.1 6 x q hq
          omega
      · rw [p3 a c1] at hq
        by_cases c2 : a = n0
        · subst c2
          rw [gP0] at hq
          cases hq
        · rw [gP a c2] at hq
          have := H.2.1 a x q hq
          omega
    · intro i q
      obtain ⟨x1, x2, x3, x4⟩ := H.2.2.1 i q
      refine ⟨fun hq => ?_, fun hq => ?_, fun hq => ?_, fun hq => ?_⟩
      · by_cases c2 : i = np
        · subst c2
          rw [p6n] at hq
          cases hq
          rw [pk3]; exact gk
        · rw [p6 i c2] at hq
          exact (hPO q 3 (x1 hq)).1
      · rw [p3 19 (by decide), gP 19 (by omega)] at hq
        exact (hPO q 3 (x2 hq)).1
      · rw [p3 7 (by decide), gP 7 (by omega)] at hq
        exact (hPO q 1 (x3 hq)).1
      · rw [p3 20 (by decide), gP 20 (by omega)] at hq
        exact (hPO q 1 (x4 hq)).1
    · refine RBn_gr HB (by omega) (by omega) (Nat.le_refl _) HB.1.2.1 hPO (fun i hi => p6 i (by omega)) (fun i _ => by rw [p3 7 (by decide), gP 7 (by omega)]) (fun c x y => i3 _ (by omega) (by omega) (by omega) (by omega)) (by rw [j3]) i58 (by rw [i5 9 (by decide)]; exact HB.2.2.1.1) (i5 10 (by decide)) (i5 11 (by decide)) l11 ((l0 21 (by decide) (by decide) (by decide)).trans HB.2.2.1.2) (fun k x y z => l0 k (by unfold okS at x; omega) (by unfold okS at x; omega) y) (by show μ3.2 46 = μ.2 46; rw [lJ]) (fun a k x y z => lK a k (by omega) (by omega)) (fun a k x y z => by show μ3.1 a k = μ.1 a k; rw [lA a (by omega) (by omega)]) (fun k x y => absurd y (by omega)) (fun _ _ _ k _ => by show μ3.1 14 k = μ.1 14 k; rw [lA 14 (by omega) (by omega)]) (fun k _ => by show μ3.1 15 k = μ.1 15 k; rw [lA 15 (by omega) (by omega)]) (fun a ha => lA a (by omega) (by omega)) (fun i x y => ?_) (fun i x y => absurd y (by omega))
      obtain rfl : i = np := by omega
      refine ⟨n0, w, d, e, h, t, p6n, by rw [pk3]; exact gk, by rw [k3]; exact gN, by rw [i0]; exact gV, ?_, q1⟩
      show μ3.1 3 i = nI w ∧ μ3.1 4 i = nI d ∧ μ3.1 5 i = nI e ∧ μ3.1 6 i = nI h ∧ μ3.1 7 i = nI t
      rw [l3 3 (by decide), l3 4 (by decide), l3 5 (by decide), l3 6 (by decide), l3 7 (by decide)]
      exact mV
  · refine OK_cm (F1 := some (-20 - nI f, cp γ1 1 2 0)) (G1 := some (-20 - nI f, mp μ1 0 9 0)) (if_t lt6 (bd_g q2 (ck_g (le_TX q3.1) (oc_gn rfl (sq_g (by rw [cp_1, if_neg (by omega), q4])))))) (if_f ne6 (bd_g q5 (sq_g (if_t rfl (by rw [mp_1, if_neg (by omega), q7]))))) ?_
    exact OK_ret rfl (Rl_fault H q3 (fun a x _ _ => q6.2.1 a (by omega)) (fun _ _ _ _ _ _ _ k _ => by rw [q6.2.1 14 (by decide)]) (fun k hk => q6.2.2 k (by unfold okS at hk; omega)) q6.1 (q6.2.2 54 (by decide)) (q6.2.1 1 (by decide)))
end
