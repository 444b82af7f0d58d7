section
theorem TX_n {γ γ1 : CS} (h : yTX γ γ1) : γ1.2.2.2.2.2 = γ.2.2.2.2.2 := by rw [h.1]
theorem TX_w {γ γ1 : CS} (h : yTX γ γ1) (hw : cwf γ) : cwf γ1 := by unfold cwf at *; rw [h.1]; exact hw
theorem readPlate_f3 (n : Nat) {γ : CS} {f : Nat} (hf : f < 2 ^ 31) (h : γ.1 1 3 = nI f) (x1 x2 x3 x4 : Int32) : bc_X6_readPlate_70 n γ x1 x2 x3 x4 = some (none, γ) :=
  (OPT_f n hf h (c := 98) (by omega) (fun s r => bc_X6_readPlate_94 n s x1 x2 x3 x4 r)).trans (f94 n hf h _ _ _ _ _)
theorem readPlate_f2 (n : Nat) {γ : CS} {f : Nat} (hf : f < 2 ^ 31) (h : γ.1 1 3 = nI f) (x1 x2 x3 : Int32) : bc_X6_readPlate_47 n γ x1 x2 x3 = some (none, γ) :=
  (OPT_f n hf h (c := 104) (by omega) (fun s r => bc_X6_readPlate_70 n s x1 x2 x3 r)).trans (readPlate_f3 n hf h _ _ _ _)
theorem readPlate_f1 (n : Nat) {γ : CS} {f : Nat} (hf : f < 2 ^ 31) (h : γ.1 1 3 = nI f) (x1 x2 : Int32) : OPT n γ 101 (fun s r => bc_X6_readPlate_47 n s x1 x2 r) = some (none, γ) :=
  (OPT_f n hf h (c := 101) (by omega) (fun s r => bc_X6_readPlate_47 n s x1 x2 r)).trans (readPlate_f2 n hf h _ _ _)
theorem readPlate_both (n : Nat) (hn : 10 ≤ n) {γ : CS} {μ : MS} {L np : Nat} {B : Nat → Nat} (hT : yTB L B) (hw : cwf γ) (h34 : 34 ≤ γ.2.2.2.2.2) (t1 : γ.1 1 2 = nI L) (t2 : ∀ i, i < L → γ.1 2 i = nI (B i)) (m1 : μ.1 0 9 = nI L) (m2 : ∀ i, i < L → μ.1 2 i = nI (B i)) (hnp : np ≤ 5) (m3 : μ.1 0 11 = nI np) : (∃ w d e h t γ1 μ1, (1 ≤ w ∧ w ≤ 999 ∧ 1 ≤ d ∧ d ≤ 99 ∧ e ≤ 9 ∧ h ≤ 9 ∧ t ≤ 9) ∧ fc_X6_readPlate n γ = some (some γ.2.2.2.2.2, plN γ1 w d e h t) ∧ yTX γ γ1 ∧ fm_readsPlate n μ = some (1, plM μ1 np w d e h t) ∧ MP μ μ1) ∨ (∃ f γ1 μ1, f ≤ 20 ∧ fc_X6_readPlate n γ = some (none, γ1) ∧ yTX γ γ1 ∧ γ1.1 1 3 = nI f ∧ fm_readsPlate n μ = some (0, μ1) ∧ MP μ μ1 ∧ μ1.1 0 10 = nI f) := by
  obtain ⟨γ0, e0⟩ : ∃ z, z = cp (cp γ 1 4 0) 1 3 (-1) := ⟨_, rfl⟩
  have hX0 : yTX γ γ0 := by subst e0; exact (TX_cp γ (by decide) _).tr (TX_cp _ (by decide) _)
  have hbeg : fc_X6_begin n γ = some (0, γ0) := by subst e0; rfl
  have T0 : TC γ0 L B 0 := by
    subst e0
    refine ⟨Nat.zero_le _, by rw [cp_1, if_neg (by omega), cp_1, if_neg (by omega)]; exact t1, by rw [cp_1, if_pos ⟨rfl, rfl⟩], by rw [cp_1, if_neg (by omega), cp_1, if_pos ⟨rfl, rfl⟩]; rfl, by rw [cp_ne _ _ _ _ (by decide), cp_ne _ _ _ _ (by decide)]; exact t2⟩
  have M0 : TM (mp μ 0 10 (nI 0)) L B 0 := ⟨Nat.zero_le _, by rw [mp_1, if_neg (by omega)]; exact m1, by rw [mp_1, if_pos ⟨rfl, rfl⟩], by rw [mp_ne _ _ _ _ (by decide)]; exact m2⟩
  have hMP0 : MP μ (mp μ 0 10 (nI 0)) := MP_mp μ _
  clear e0
  have hC : ∀ {r} , (bd (fc_X6_readPart n γ0 (nI 119) (nI 1) (nI 999)) (fun r4 σ5 => ck (decide (γ0.2.2.2.2.2 ≤ σ5.2.2.2.2.2)) (bd (fc_X6_readPart n σ5 (nI 100) (nI 1) (nI 99)) (fun r7 σ8 => ck (decide (σ5.2.2.2.2.2 ≤ σ8.2.2.2.2.2)) (OPT n σ8 101 (fun s r => bc_X6_readPlate_47 n s r4 r7 r)))))) = r → fc_X6_readPlate n γ = r := fun h => bd_g hbeg (ck_g (le_TX hX0.1) h)
  have hMm : ∀ {r}, (bd (fm_part n (mp μ 0 10 (nI 0)) (nI 119) (nI 1) (nI 999)) (fun r2 σ3 => if (0 ≤ r2) then (bd (fm_part n σ3 (nI 100) (nI 1) (nI 99)) (fun r5 σ6 => if (0 ≤ r5) then (bd (fm_perhaps n σ6 (nI 101)) (fun r8 σ9 => if (0 ≤ r8) then (bd (fm_perhaps n σ9 (nI 104)) (fun r11 σ12 => if (0 ≤ r11) then (bd (fm_perhaps n σ12 (nI 98)) (fun r14 σ15 => if (r14 < 0) then (some (0, σ15)) else (if ((σ15.1 0 9) ≤ (σ15.1 0 10)) then (ck (ib (σ15.1 0 11) 7) (sq (mp σ15 3 (Int32.toNatClampNeg (σ15.1 0 11)) r2) (fun σ19 => ck (ib (σ19.1 0 11) 7) (sq (mp σ19 4 (Int32.toNatClampNeg (σ19.1 0 11)) r5) (fun σ21 => ck (ib (σ21.1 0 11) 7) (sq (mp σ21 5 (Int32.toNatClampNeg (σ21.1 0 11)) r8) (fun σ23 => ck (ib (σ23.1 0 11) 7) (sq (mp σ23 6 (Int32.toNatClampNeg (σ23.1 0 11)) r11) (fun σ25 => ck (ib (σ25.1 0 11) 7) (sq (mp σ25 7 (Int32.toNatClampNeg (σ25.1 0 11)) r14) (fun σ27 => some (1, σ27)))))))))))) else (some (0, σ15))))) else (some (0, σ12)))) else (some (0, σ9)))) else (some (0, σ6)))) else (some (0, σ3)))) = r → fm_readsPlate n μ = r := fun h => h
  have nm1 : ¬ (0 : Int32) ≤ -1 := by decide
  rcases part_both n hn hT T0 M0 (c := 119) (a := 1) (b := 999) (by omega) (by omega) (by omega) with ⟨w, p1, γ1, μ1, a1, a2, a3, a4, a5, a6, a7, a8⟩ | ⟨f, r, γ1, μ1, a1, a2, a3, a4, a5, a6, a7⟩
  case inr => exact Or.inr ⟨f, γ1, μ1, a1, hC (bd_g a2 (ck_g (le_TX a3.1) (bd_g (part_f n hn (by omega) a4 (c := 100) (by omega) _ _) (ck_g (dec_t (Nat.le_refl _)) (readPlate_f1 n (by omega) a4 _ _))))), hX0.tr a3, a4, hMm (bd_g a5 (if_f nm1 rfl)), hMP0.tr a6, a7⟩
  rcases part_both n hn hT a5 a8 (c := 100) (a := 1) (b := 99) (by omega) (by omega) (by omega) with ⟨d, p2, γ2, μ2, b1, b2, b3, b4, b5, b6, b7, b8⟩ | ⟨f, r, γ2, μ2, b1, b2, b3, b4, b5, b6, b7⟩
  case inr => exact Or.inr ⟨f, γ2, μ2, b1, hC (bd_g a3 (ck_g (le_TX a4.1) (bd_g b2 (ck_g (le_TX b3.1) (readPlate_f1 n (by omega) b4 _ _))))), (hX0.tr a4).tr b3, b4, hMm (bd_g a6 (if_t (nI_pos' (by omega)) (bd_g b5 (if_f nm1 rfl)))), (hMP0.tr a7).tr b6, b7⟩
  rcases opt_both n hn hT b5 b8 (c := 101) (by omega) with ⟨e, p3, γ3, μ3, c1, c2, c3, c4, c5, c6, c7, c8⟩ | ⟨f, r, γ3, μ3, c1, c2, c3, c4, c5, c6, c7⟩
  case inr => exact Or.inr ⟨f, γ3, μ3, c1, hC (bd_g a3 (ck_g (le_TX a4.1) (bd_g b3 (ck_g (le_TX b4.1) ((c2 _ _).trans (readPlate_f2 n (by omega) c4 _ _ _)))))), ((hX0.tr a4).tr b4).tr c3, c4, hMm (bd_g a6 (if_t (nI_pos' (by omega)) (bd_g b6 (if_t (nI_pos' (by omega)) (bd_g c5 (if_f nm1 rfl)))))), ((hMP0.tr a7).tr b7).tr c6, c7⟩
  rcases opt_both n hn hT c5 c8 (c := 104) (by omega) with ⟨h, p4, γ4, μ4, d1, d2, d3, d4, d5, d6, d7, d8⟩ | ⟨f, r, γ4, μ4, d1, d2, d3, d4, d5, d6, d7⟩
  case inr => exact Or.inr ⟨f, γ4, μ4, d1, hC (bd_g a3 (ck_g (le_TX a4.1) (bd_g b3 (ck_g (le_TX b4.1) ((c3 _ _).trans ((d2 _ (fun s r => bc_X6_readPlate_70 n s (nI w) (nI d) (nI e) r)).trans (readPlate_f3 n (by omega) d4 _ _ _ _))))))), (((hX0.tr a4).tr b4).tr c4).tr d3, d4, hMm (bd_g a6 (if_t (nI_pos' (by omega)) (bd_g b6 (if_t (nI_pos' (by omega)) (bd_g c6 (if_t (nI_pos' (by omega)) (bd_g d5 (if_f nm1 rfl)))))))), (((hMP0.tr a7).tr b7).tr c7).tr d6, d7⟩
  rcases opt_both n hn hT d5 d8 (c := 98) (by omega) with ⟨t, p5, γ5, μ5, e1, e2, e3, e4, e5, e6, e7, e8⟩ | ⟨f, r, γ5, μ5, e1, e2, e3, e4, e5, e6, e7⟩
  case inr => exact Or.inr ⟨f, γ5, μ5, e1, hC (bd_g a3 (ck_g (le_TX a4.1) (bd_g b3 (ck_g (le_TX b4.1) ((c3 _ _).trans ((d3 _ (fun s r => bc_X6_readPlate_70 n s (nI w) (nI d) (nI e) r)).trans ((e2 _ (fun s r => bc_X6_readPlate_94 n s (nI w) (nI d) (nI e) (nI h) r)).trans (f94 n (by omega) e4 _ _ _ _ _)))))))), ((((hX0.tr a4).tr b4).tr c4).tr d4).tr e3, e4, hMm (bd_g a6 (if_t (nI_pos' (by omega)) (bd_g b6 (if_t (nI_pos' (by omega)) (bd_g c6 (if_t (nI_pos' (by omega)) (bd_g d6 (if_t (nI_pos' (by omega)) (bd_g e5 (if_t (by decide) rfl)))))))))), ((((hMP0.tr a7).tr b7).tr c7).tr d7).tr e6, e7⟩
  have hXX := ((((hX0.tr a4).tr b4).tr c4).tr d4).tr e4
  have hMM := ((((hMP0.tr a7).tr b7).tr c7).tr d7).tr e7
  have hLL := hT.1
  by_cases hp : p5 < L
  · exact Or.inr ⟨p5, cp γ5 1 3 (nI p5), μ5, by omega, hC (bd_g a3 (ck_g (le_TX a4.1) (bd_g b3 (ck_g (le_TX b4.1) ((c3 _ _).trans ((d3 _ (fun s r => bc_X6_readPlate_70 n s (nI w) (nI d) (nI e) r)).trans ((e3 _ (fun s r => bc_X6_readPlate_94 n s (nI w) (nI d) (nI e) (nI h) r)).trans (e94 n hT e5 hp _ _ _ _ _)))))))), hXX.tr (TX_cp _ (by decide) _), by rw [cp_1, if_pos ⟨rfl, rfl⟩], hMm (bd_g a6 (if_t (nI_pos' (by omega)) (bd_g b6 (if_t (nI_pos' (by omega)) (bd_g c6 (if_t (nI_pos' (by omega)) (bd_g d6 (if_t (nI_pos' (by omega)) (bd_g e6 (if_f (nI_pos (by omega)) (if_f (by rw [e8.2.1, e8.2.2.1]; exact nI_ge hp (by omega)) rfl))))))))))), hMM, e8.2.2.1⟩
  · have q0 : μ5.1 0 11 = nI np := (hMM.2.2 11 (by decide)).trans m3
    have qi : ib (nI np) 7 = true := ib_nI (by omega) (by omega)
    have qc : Int32.toNatClampNeg (nI np) = np := nI_clamp (by omega)
    have z1 : (mp μ5 3 np (nI w)).1 0 11 = nI np := by rw [mp_ne _ _ _ _ (by decide)]; exact q0
    have z2 : (mp (mp μ5 3 np (nI w)) 4 np (nI d)).1 0 11 = nI np := by rw [mp_ne _ _ _ _ (by decide)]; exact z1
    have z3 : (mp (mp (mp μ5 3 np (nI w)) 4 np (nI d)) 5 np (nI e)).1 0 11 = nI np := by rw [mp_ne _ _ _ _ (by decide)]; exact z2
    have z4 : (mp (mp (mp (mp μ5 3 np (nI w)) 4 np (nI d)) 5 np (nI e)) 6 np (nI h)).1 0 11 = nI np := by rw [mp_ne _ _ _ _ (by decide)]; exact z3
    refine Or.inl ⟨w, d, e, h, t, γ5, μ5, ⟨a1.1, a1.2, b1.1, b1.2, c1, d1, e1⟩, hC (bd_g a3 (ck_g (le_TX a4.1) (bd_g b3 (ck_g (le_TX b4.1) ((c3 _ _).trans ((d3 _ (fun s r => bc_X6_readPlate_70 n s (nI w) (nI d) (nI e) r)).trans ((e3 _ (fun s r => bc_X6_readPlate_94 n s (nI w) (nI d) (nI e) (nI h) r)).trans (by rw [← TX_n hXX]; exact o94 n hT e5 hp (TX_w hXX hw) (by rw [TX_n hXX]; exact h34) w d e h t)))))))), hXX, ?_, hMM⟩
    refine hMm (bd_g a6 (if_t (nI_pos' (by omega)) (bd_g b6 (if_t (nI_pos' (by omega)) (bd_g c6 (if_t (nI_pos' (by omega)) (bd_g d6 (if_t (nI_pos' (by omega)) (bd_g e6 (if_f (nI_pos (by omega)) (if_t (by rw [e8.2.1, e8.2.2.1]; exact nI_le (by omega) (by omega)) ?_)))))))))))
    exact ck_g (by rw [q0]; exact qi) (sq_r (x1 := mp μ5 3 np (nI w)) (by rw [q0, qc]) (ck_g (by rw [z1]; exact qi) (sq_r (x1 := mp (mp μ5 3 np (nI w)) 4 np (nI d)) (by rw [z1, qc]) (ck_g (by rw [z2]; exact qi) (sq_r (x1 := mp (mp (mp μ5 3 np (nI w)) 4 np (nI d)) 5 np (nI e)) (by rw [z2, qc]) (ck_g (by rw [z3]; exact qi) (sq_r (x1 := mp (mp (mp (mp μ5 3 np (nI w)) 4 np (nI d)) 5 np (nI e)) 6 np (nI h)) (by rw [z3, qc]) (ck_g (by rw [z4]; exact qi) (sq_r (x1 := plM μ5 np w d e h t) (by rw [z4, qc]; rfl) rfl)))))))))
/-! a bench grows -/
theorem SPr_gr {γ γ1 : CS} {b : Nat} {v v1 : VW} {np nl np1 nl1 : Nat} (hnp : np ≤ np1) (hnl : nl ≤ nl1) (h8 : nl1 ≤ 8) (c1 : PO γ γ1) (c2 : ∀ i, i < np → γ1.2.2.1 (b + 1) i = γ.2.2.1 (b + 1) i) (cI : ∀ c, 3 ≤ c → c ≤ 12 → γ1.1 (b + c) = γ.1 (b + c)) (c5 : γ1.2.1 (b + 7) = γ.2.1 (b + 7)) (vP : ∀ a k, 3 ≤ a → a ≤ 7 → k < np → v1.1 a k = v.1 a k) (vL : ∀ k, k < nl → v1.1 13 k = v.1 13 k) (vN : ∀ k, nl ≤ k → k < nl1 → v1.1 13 k = 0) (vO : ∀ a, a = 19 ∨ a = 20 → v1.1 a = v.1 a) (v2 : ∀ k, 38 ≤ k → k ≤ 45 → v1.2.1 k = v.2.1 k) (v3 : v1.2.2 = v.2.2) (H : SPr γ b v np nl) : SPr γ1 b v1 np1 nl1 := by
  obtain ⟨a1, a2, a3, a4, a5, a6⟩ := H
  have e7 := cI 7 (by omega) (by omega)
  have e8 := cI 8 (by omega) (by omega)
  have e9 := cI 9 (by omega) (by omega)
  have e10 := cI 10 (by omega) (by omega)
  refine ⟨by rw [e7, v2 38 (by omega) (by omega)]; exact a1, by rw [e7]; exact a2, by rw [c5, v3]; exact a3, fun i hi => ?_, fun i h1 h2 => by rw [e8]; exact a5 i (by omega) h2, fun hs => ?_⟩
  · rw [e8]
    by_cases h : i < nl
    · rw [vL i h]; exact a4 i h
    · rw [vN i (by omega) hi]; exact a5 i (by omega) (by omega)
  · obtain ⟨pn, fl, f0, ln, tk, en, tc, q, w, d, e, h, t, r0, r1, r2, r3, r4, r5, r6, r7, r8, r9, r10⟩ := a6 (by rw [← e7]; exact hs)
    refine ⟨pn, fl, f0, ln, tk, en, tc, q, w, d, e, h, t, ⟨by omega, r0.2⟩, PLr_move c1 (c2 pn r0.1) (fun a x y => vP a pn x y r0.1) r1, ?_, ?_, ?_, ?_, ?_, ?_, ?_, ?_, ?_⟩
    · rw [e7, v2 39 (by omega) (by omega)]; exact r2
    · rw [e7, v2 44 (by omega) (by omega)]; exact r3
    · rw [e7, v2 41 (by omega) (by omega)]; exact r4
    · rw [e7, v2 40 (by omega) (by omega)]; exact r5
    · rw [e7]; exact r6
    · rw [e7, v2 42 (by omega) (by omega)]; exact r7
    · rw [e7, v2 43 (by omega) (by omega)]; exact r8
    · rw [e7, v2 45 (by omega) (by omega)]; exact r9
    · rw [e9, e10, vO 19 (by omega), vO 20 (by omega)]; exact r10
theorem t0_at {γ : CS} {b : Nat} {v : VW} {nl : Nat} (H8 : v.1 15 0 = 0) (H7 : ∀ i, i < nl → ∃ q a s cs fr kd f t, LSr γ b v i q a s cs fr kd f t) : ∀ i, i ≤ nl → ∃ t0, t0 ≤ 20 * i ∧ v.1 15 i = nI t0 := by
  intro i hi
  cases i with
  | zero => exact ⟨0, by omega, H8⟩
  | succ i =>
    obtain ⟨q, a, s, cs, fr, kd, f, t, l1, l2, ⟨k1, k2, k3, k4⟩, l4⟩ := H7 i (by omega)
    exact ⟨fr + cs.length, k3, k2⟩
theorem tk_mono {γ : CS} {b : Nat} {v : VW} {nl t0 : Nat} (hnl : nl ≤ 8) (H7 : ∀ i, i < nl → ∃ q a s cs fr kd f t, LSr γ b v i q a s cs fr kd f t) (h1 : t0 ≤ 20 * nl) (h2 : v.1 15 nl = nI t0) : ∀ m i ti, i + m = nl → ti ≤ 20 * i → v.1 15 i = nI ti → ti ≤ t0 := by
  intro m
  induction m with
  | zero =>
    intro i ti hi ht he
    obtain rfl : i = nl := by omega
    have : ti = t0 := (nI_eq (by omega) (by omega)).mp (he.symm.trans h2)
    omega
  | succ m ih =>
    intro i ti hi ht he
    obtain ⟨q, a, s, cs, fr, kd, f, t, l1, l2, ⟨k1, k2, k3, k4⟩, l4⟩ := H7 i (by omega)
    have e : ti = fr := (nI_eq (by omega) (by omega)).mp (he.symm.trans k1)
    have := ih (i + 1) (fr + cs.length) (by omega) k3 k2
    omega
theorem RBn_gr {γ γ1 : CS} {b : Nat} {v v1 : VW} {np nl ng np1 nl1 : Nat} (H : RBn γ b v np nl ng) (hnp : np ≤ np1) (h6 : np1 ≤ 6) (hnl : nl ≤ nl1) (h8 : nl1 ≤ 8) (c1 : PO γ γ1) (c2 : ∀ i, i < np → γ1.2.2.1 (b + 1) i = γ.2.2.1 (b + 1) i) (c3 : ∀ i, i < nl → γ1.2.2.1 (b + 2) i = γ.2.2.1 (b + 2) i) (cI : ∀ c, 3 ≤ c → c ≤ 12 → γ1.1 (b + c) = γ.1 (b + c)) (c5 : γ1.2.1 (b + 7) = γ.2.1 (b + 7)) (f8 : γ1.1 b 8 = nI np1) (f9 : γ1.1 b 9 = nI nl1) (f10 : γ1.1 b 10 = γ.1 b 10) (f11 : γ1.1 b 11 = γ.1 b 11) (s11 : v1.2.1 11 = nI np1) (s21 : v1.2.1 21 = nI nl1) (sO : ∀ k, okS k → k ≠ 11 → k ≠ 21 → v1.2.1 k = v.2.1 k) (v3 : v1.2.2 = v.2.2) (vP : ∀ a k, 3 ≤ a → a ≤ 7 → k < np → v1.1 a k = v.1 a k) (vL : ∀ a k, 10 ≤ a → a ≤ 13 → k < nl → v1.1 a k = v.1 a k) (vN : ∀ k, nl ≤ k → k < nl1 → v1.1 13 k = 0) (v14 : ∀ t0, t0 ≤ 20 * nl → v.1 15 nl = nI t0 → ∀ k, k < t0 → v1.1 14 k = v.1 14 k) (v15 : ∀ k, k ≤ nl → v1.1 15 k = v.1 15 k) (vO : ∀ a, (a = 8 ∨ a = 9 ∨ 19 ≤ a ∧ a ≤ 23) → v1.1 a = v.1 a) (nP : ∀ i, np ≤ i → i < np1 → ∃ q w d e h t, PLr γ1 b v1 i q w d e h t) (nL : ∀ i, nl ≤ i → i < nl1 → ∃ q a s cs fr kd f t, LSr γ1 b v1 i q a s cs fr kd f t) : RBn γ1 b v1 np1 nl1 ng := by
  obtain ⟨a1, a2, a3, a4, a5, a6, a7, a8, a9, a10, a11, a12⟩ := H
  refine ⟨⟨h6, h8, a1.2.2⟩, ⟨f8, s11⟩, ⟨f9, s21⟩, by rw [f10, sO 52 (by unfold okS; omega) (by omega) (by omega)]; exact a4, by rw [f11, sO 12 (by unfold okS; omega) (by omega) (by omega)]; exact a5, ?_, ?_, by rw [v15 0 (by omega)]; exact a8, ?_, ?_, SPr_gr hnp hnl h8 c1 c2 cI c5 vP (fun k hk => vL 13 k (by omega) (by omega) hk) vN (fun a ha => vO a (by omega)) (fun k x y => sO k (by unfold okS; omega) (by omega) (by omega)) v3 a11, ?_⟩
  · intro i hi
    by_cases h : i < np
    · obtain ⟨q, w, d, e, h', t, H⟩ := a6 i h
      exact ⟨q, w, d, e, h', t, PLr_move c1 (c2 i h) (fun a x y => vP a i x y h) H⟩
    · exact nP i (by omega) hi
  · intro i hi
    by_cases h : i < nl
    · obtain ⟨q, a, s, cs, fr, kd, f, t, l1, l2, l3, l4, l5, l6⟩ := a7 i h
      obtain ⟨p1, p2, p3, p4⟩ := c1 q 1 l2.1
      obtain ⟨k1, k2, k3, k4⟩ := l3
      obtain ⟨t0, x1, x2⟩ := t0_at a8 a7 nl (Nat.le_refl _)
      have hle := tk_mono (by omega) a7 x1 x2 (nl - (i + 1)) (i + 1) (fr + cs.length) (by omega) k3 k2
      exact ⟨q, a, s, cs, fr, kd, f, t, (c3 i h).trans l1, LOr_move c1 l2, ⟨(v15 i (by omega)).trans k1, (v15 (i + 1) (by omega)).trans k2, k3, fun k hk => by rw [v14 t0 x1 x2 _ (by omega)]; exact k4 k hk⟩, by rw [p4 (by rw [l2.2.1]; decide)]; exact l4, by rw [vL 10 i (by omega) (by omega) h, vL 11 i (by omega) (by omega) h, vL 12 i (by omega) (by omega) h]; exact l5, l6⟩
    · exact nL i (by omega) hi
  · intro f hf
    rw [cI 3 (by omega) (by omega), cI 4 (by omega) (by omega), vO 8 (by omega), vO 9 (by omega)]
    exact a9 f hf
  · intro i hi
    rw [cI 5 (by omega) (by omega), cI 6 (by omega) (by omega), vO 22 (by omega), vO 23 (by omega)]
    exact a10 i hi
  · obtain ⟨len, sl, h1, h2, h3, h4, h5⟩ := a12
    refine ⟨len, sl, h1, h2, by rw [cI 11 (by omega) (by omega), sO 48 (by unfold okS; omega) (by omega) (by omega)]; exact h3, by rw [cI 11 (by omega) (by omega), sO 49 (by unfold okS; omega) (by omega) (by omega)]; exact h4, ?_⟩
    rw [cI 12 (by omega) (by omega), vO 21 (by omega)]
    exact h5
theorem Rl_gr {γ γ1 : CS} {μ μ1 : MS} (H : Rl γ μ) (hn : 34 ≤ γ1.2.2.2.2.2) (hw : cwf γ1) (hA : ARr γ1) (hPO : PO γ γ1) (hI : ∀ a, 18 ≤ a → a ≤ 30 → γ1.1 a = γ.1 a) (h19 : γ1.2.2.1 19 = γ.2.2.1 19) (h20 : γ1.2.2.1 20 = γ.2.2.1 20) (hJ : γ1.2.1 25 = γ.2.1 25) (h24 : μ1.1 24 = μ.1 24) (h57 : μ1.2 57 = μ.2 57) (c05 : γ1.1 0 5 = γ.1 0 5) (s54 : μ1.1 0 54 = μ.1 0 54) (hT : TXr γ1 μ1) (h4 : γ1.1 4 = γ.1 4) (hm1 : μ1.1 1 = μ.1 1) (hB : RB γ1 5 (live μ1)) : Rl γ1 μ1 := by
  obtain ⟨g1, g2, g3, g4, g5, g6, g7, g8⟩ := H
  refine ⟨hn, hw, hA, hB, hT, by unfold RFr at *; rw [h4, hm1]; exact g6, by rw [c05, s54]; exact g7, ?_⟩
  rw [c05]
  exact fun h => RB_move (CV_id 18 hPO h19 h20 (fun c hc => hI _ (by omega) (by omega)) hJ) (VV_img h24 h57) (g8 h)
theorem TXr_0 {γ : CS} {μ : MS} (h1 : γ.1 1 2 = 0) (h2 : μ.1 0 9 = 0) : TXr γ μ := ⟨0, by omega, ⟨h1, h2⟩, fun i hi => absurd hi (by omega)⟩
/-- a text with a fault: it is gone, no more -/
theorem Rl_fault {γ γ1 : CS} {μ μ1 : MS} (H : Rl γ μ) (hX : yTX γ γ1) (hM : ∀ a, 3 ≤ a → a ≠ 14 → a ≠ 16 → μ1.1 a = μ.1 a) (h14 : ∀ np nl ng, RBn γ 5 (live μ) np nl ng → ∀ t0, t0 ≤ 20 * nl → μ.1 15 nl = nI t0 → ∀ k, k < t0 → μ1.1 14 k = μ.1 14 k) (hk : ∀ k, okS k → μ1.1 0 k = μ.1 0 k) (hJ : μ1.2 = μ.2) (s54 : μ1.1 0 54 = μ.1 0 54) (h1 : μ1.1 1 = μ.1 1) : Rl (cp γ1 1 2 0) (mp μ1 0 9 0) := by
  have hPO : PO γ (cp γ1 1 2 0) := fun q k hq => by
    have q34 := (pk_s hq).1
    refine ⟨?_, ?_, ?_, fun _ => ?_⟩
    · show pk γ1 q k = true
      unfold pk at *; rw [hX.1]; exact hq
    · show γ1.2.2.2.2.1 q = _
      rw [hX.1]
    · show γ1.2.2.1 q = _
      rw [hX.1]
    · rw [cp_ne _ _ _ _ (by omega)]; exact hX.2.1 q (by omega) (by omega)
  have e2 : (cp γ1 1 2 0).2 = γ.2 := hX.1
  have eI : ∀ a, a ≠ 1 → a ≠ 3 → (cp γ1 1 2 0).1 a = γ.1 a := fun a x y => by rw [cp_ne _ _ _ _ x]; exact hX.2.1 a x y
  have eM : ∀ a, a ≠ 0 → (mp μ1 0 9 0).1 a = μ1.1 a := fun a x => mp_ne _ _ _ _ x
  have eS : ∀ k, k ≠ 9 → (mp μ1 0 9 0).1 0 k = μ1.1 0 k := fun k x => by rw [mp_1, if_neg (by omega)]
  obtain ⟨np, nl, ng, HB⟩ := H.2.2.2.1
  refine Rl_gr H (by rw [e2]; exact H.1) (by unfold cwf at *; rw [e2]; exact H.2.1) (by have := H.2.2.1; unfold ARr pk at *; rw [e2]; exact this) hPO (fun a x y => eI a (by omega) (by omega)) (by rw [e2]) (by rw [e2]) (by rw [e2]) ((eM 24 (by decide)).trans (hM 24 (by omega) (by omega) (by omega))) (by show μ1.2 57 = _; rw [hJ]) (by rw [eI 0 (by decide) (by decide)]) ((eS 54 (by decide)).trans s54) (TXr_0 (by rw [cp_1, if_pos ⟨rfl, rfl⟩]) (by rw [mp_1, if_pos ⟨rfl, rfl⟩])) (eI 4 (by decide) (by decide)) ((eM 1 (by decide)).trans h1) ⟨np, nl, ng, ?_⟩
  have b1 := HB.2.1
  have b2 := HB.2.2.1
  refine RBn_gr HB (Nat.le_refl _) HB.1.1 (Nat.le_refl _) HB.1.2.1 hPO (fun i _ => by rw [e2]) (fun i _ => by rw [e2]) (fun c x y => eI _ (by omega) (by omega)) (by rw [e2]) (by rw [eI 5 (by decide) (by decide)]; exact b1.1) (by rw [eI 5 (by decide) (by decide)]; exact b2.1) (by rw [eI 5 (by decide) (by decide)]) (by rw [eI 5 (by decide) (by decide)]) ?_ ?_ (fun k x _ _ => ?_) (by show μ1.2 46 = μ.2 46; rw [hJ]) (fun a k x y _ => ?_) (fun a k x y _ => ?_) (fun k x y => absurd y (by omega)) (fun t0 x y k hk => ?_) (fun k hk => ?_) (fun a ha => ?_) (fun i x y => absurd y (by omega)) (fun i x y => absurd y (by omega))
  · show (mp μ1 0 9 0).1 0 11 = nI np
    rw [eS 11 (by decide), hk 11 (by unfold okS; omega)]; exact b1.2
  · show (mp μ1 0 9 0).1 0 21 = nI nl
    rw [eS 21 (by decide), hk 21 (by unfold okS; omega)]; exact b2.2
  · show (mp μ1 0 9 0).1 0 k = μ.1 0 k
    rw [eS k (by unfold okS at x; omega), hk k x]
  · show (mp μ1 0 9 0).1 a k = μ.1 a k
    rw [eM a (by omega), hM a (by omega) (by omega) (by omega)]
  · show (mp μ1 0 9 0).1 a k = μ.1 a k
    rw [eM a (by omega), hM a (by omega) (by omega) (by omega)]
  · show (mp μ1 0 9 0).1 14 k = μ.1 14 k
    rw [eM 14 (by decide)]; exact h14 np nl ng HB t0 x y k hk
  · show (mp μ1 0 9 0).1 15 k = μ.1 15 k
    rw [eM 15 (by decide), hM 15 (by omega) (by omega) (by omega)]
  · show (mp μ1 0 9 0).1 a = μ.1 a
    rw [eM a (by omega), hM a (by omega) (by omega) (by omega)]
theorem c_refA (n : Nat) (γ : CS) {x : Int32} {k : Nat} (hk : 1 ≤ k ∧ k ≤ 6) (e : -x = nI k) : bd (fc_X7_refuse n γ x) (fun r s => ck (decide (γ.2.2.2.2.2 ≤ s.2.2.2.2.2)) (some (r, s))) = some (x, cp γ 4 k (γ.1 4 k + 1)) := bd_g (c_refuse n γ hk e) (ck_g (dec_t (Nat.le_refl _)) rfl)
theorem OK_noA {n : Nat} {γ : CS} {μ : MS} {x : Int32} (k : Nat) (H : Rl γ μ) (hk : 1 ≤ k ∧ k ≤ 6) (e : -x = nI k) : OK (bd (fc_X7_refuse n γ x) (fun r s => ck (decide (γ.2.2.2.2.2 ≤ s.2.2.2.2.2)) (some (r, s)))) (bd (fm_no n μ x) (fun r s => some (r, s))) :=
  OK_cm (c_refA n γ hk e) (bd_g (m_no n μ hk e) rfl) (OK_ret rfl (Rl_refuse H hk))
/-- the text of both -/
theorem txt_of {γ : CS} {μ : MS} (h : TXr γ μ) : ∃ L B, yTB L B ∧ (γ.1 1 2 = nI L ∧ μ.1 0 9 = nI L) ∧ (∀ i, i < L → γ.1 2 i = nI (B i)) ∧ (∀ i, i < L → μ.1 2 i = nI (B i)) := by
  obtain ⟨L, h1, h2, h3⟩ := h
  refine ⟨L, fun i => Int32.toNatClampNeg (γ.1 2 i), ⟨h1, fun i hi => ?_⟩, h2, fun i hi => ?_, fun i hi => ?_⟩
  · obtain ⟨t, ht, e⟩ := (h3 i hi).2
    show Int32.toNatClampNeg (γ.1 2 i) ≤ 255
    rw [e, nI_clamp (by omega)]; exact ht
  · obtain ⟨t, ht, e⟩ := (h3 i hi).2
    show γ.1 2 i = nI (Int32.toNatClampNeg (γ.1 2 i))
    rw [e, nI_clamp (by omega)]
  · obtain ⟨e1, t, ht, e⟩ := h3 i hi
    show μ.1 2 i = nI (Int32.toNatClampNeg (γ.1 2 i))
    rw [← e1, e, nI_clamp (by omega)]
end
