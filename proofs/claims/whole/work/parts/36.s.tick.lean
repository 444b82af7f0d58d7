/-! a tick in the class, whole -/
theorem mx_nI {a b : Nat} (ha : a < 2 ^ 30) (hb : b < 2 ^ 30) : (if 0 < nI a - nI b then nI a - nI b else 0) = nI (a - b) := by
  have ea := nI_toInt (n := a) (by omega)
  have eb := nI_toInt (n := b) (by omega)
  have es : (nI a - nI b).toInt = (a : Int) - b := by rw [i_sub (by rw [ea, eb]; omega) (by rw [ea, eb]; omega), ea, eb]
  have e0 : (0 : Int32).toInt = 0 := by decide
  by_cases h : b < a
  · rw [if_pos (by rw [Int32.lt_iff_toInt_lt, es, e0]; omega), nI_sub (by omega) (by omega)]
  · rw [if_neg (by rw [Int32.lt_iff_toInt_lt, es, e0]; omega), show a - b = 0 by omega]
    rfl
theorem leanTo_eq (n : Nat) (γ : CS) {l d t : Nat} (hl : l ≤ 9000) (hd : d ≤ 99) (ht : t ≤ 9) (h3 : γ.1 32 3 = nI d) (h5 : γ.1 32 5 = nI t) : fc_X2_leanTo n γ (nI l) = some (0, cp (cp (cp (cp γ 31 3 (nI l)) 31 4 (nI (TN l d t))) 32 0 (nI l)) 32 1 (nI (TN l d t))) := by
  unfold fc_X2_leanTo
  have e1 : (cp γ 31 3 (nI l)).1 31 3 = nI l := by rw [cp_1, if_pos ⟨rfl, rfl⟩]
  refine sq_g (sq_r (x1 := nI d) ?_ (sq_r (x1 := nI t) ?_ (bd_g (a := nI (TN l d t)) (b := cp γ 31 3 (nI l)) ?_ (sq_g (sq_g (sq_g ?_))))))
  · show (cp γ 31 3 (nI l)).1 32 3 = nI d
    rw [cp_ne _ _ _ _ (by decide)]; exact h3
  · show (cp γ 31 3 (nI l)).1 32 5 = nI t
    rw [cp_ne _ _ _ _ (by decide)]; exact h5
  · rw [e1]; exact ctone n _ hl hd ht
  · have e2 : (cp (cp γ 31 3 (nI l)) 31 4 (nI (TN l d t))).1 31 3 = nI l := by rw [cp_1, if_neg (by decide), e1]
    have e3 : (cp (cp (cp γ 31 3 (nI l)) 31 4 (nI (TN l d t))) 32 (Int32.toNatClampNeg 0) (nI l)).1 31 4 = nI (TN l d t) := by rw [cp_ne _ _ _ _ (by decide), cp_1, if_pos ⟨rfl, rfl⟩]
    rw [e2, e3]
    rfl
/-- the mind's numbers at a tick -/
def MD (γ : CS) (lean tick stp d t : Nat) : Prop := γ.1 31 3 = nI lean ∧ γ.1 31 4 = nI (TN lean d t) ∧ γ.1 31 5 = nI tick ∧ γ.1 31 8 = nI stp ∧ γ.1 32 0 = nI lean ∧ γ.1 32 1 = nI (TN lean d t) ∧ γ.1 32 3 = nI d ∧ γ.1 32 5 = nI t
/-- how it ends -/
def enD (lean1 S tick1 : Nat) (lp : Bool) : Nat := if lean1 = 0 then 1 else if lp = true then 2 else if S = 0 then 3 else if tick1 < 9999 then 0 else 4
/-- what a tick leaves in the mind -/
def AD (γ γ1 : CS) (V : Nat → Nat) (lean1 tick1 en d t : Nat) : Prop := CE γ γ1 ∧ (∀ j, j < 8 → γ1.1 33 j = nI (V j)) ∧ (γ1.1 31 3 = nI lean1 ∧ γ1.1 31 4 = nI (TN lean1 d t) ∧ γ1.1 31 5 = nI tick1 ∧ γ1.1 31 6 = nI en) ∧ (∀ k, 7 ≤ k → γ1.1 31 k = γ.1 31 k) ∧ (γ1.1 32 0 = nI lean1 ∧ γ1.1 32 1 = nI (TN lean1 d t)) ∧ (∀ k, 2 ≤ k → γ1.1 32 k = γ.1 32 k) ∧ γ1.2 = γ.2
theorem endBy_eq (n : Nat) (γ : CS) {lean1 S tick1 : Nat} {lp : Bool} (h3 : γ.1 31 3 = nI lean1) (h5 : γ.1 31 5 = nI tick1) (hl : lean1 < 2 ^ 31) (hS : S < 2 ^ 31) (ht : tick1 < 2 ^ 31) : fc_X2_endBy n γ (nI S) (fI lp) = some (nI (enD lean1 S tick1 lp), γ) := by
  unfold fc_X2_endBy enD
  by_cases c1 : lean1 = 0
  · rw [if_pos c1]
    exact if_t (by rw [h3, c1]; rfl) rfl
  · rw [if_neg c1]
    refine if_f (by rw [h3]; exact nI_ne0 (by omega) hl) ?_
    cases lp with
    | true =>
      rw [if_pos rfl]
      exact if_f (by decide) rfl
    | false =>
      rw [if_neg (show ¬ (false = true) by decide)]
      refine if_t rfl ?_
      by_cases c3 : S = 0
      · rw [if_pos c3]
        exact if_t (by rw [c3]; rfl) rfl
      · rw [if_neg c3]
        refine if_f (nI_ne0 (by omega) hS) ?_
        by_cases c4 : tick1 < 9999
        · rw [if_pos c4]
          exact if_t (by rw [h5]; exact nI_lt (b := 9999) c4 (by omega)) rfl
        · rw [if_neg c4]
          exact if_f (by rw [h5]; exact nI_nlt (b := 9999) (by omega) ht) rfl
theorem adv_end (n : Nat) (γ γ8 : CS) {V : Nat → Nat} {lean tick stp d t S : Nat} {lp : Bool} (hM : MD γ lean tick stp d t) (hl : lean ≤ 9000) (htk : tick ≤ 20000) (hstp : stp ≤ 10) (hd : d ≤ 99) (ht : t ≤ 9) (hS : S ≤ 99990) (hE : CE γ γ8) (h2 : γ8.2 = γ.2) (h31 : γ8.1 31 = γ.1 31) (h32 : γ8.1 32 = γ.1 32) (hV : ∀ j, j < 8 → γ8.1 33 j = nI (V j)) :
    ∃ γ1, bc_X2_advance_128 n γ8 (nI S) (fI lp) = some (0, γ1) ∧ AD γ γ1 V (lean - S * stp) (tick + stp) (enD (lean - S * stp) S (tick + stp) lp) d t := by
  obtain ⟨m3, m4, m5, m8, f0, f1, f3, f5⟩ := hM
  have hmul : S * stp ≤ 99990 * 10 := Nat.mul_le_mul hS hstp
  have emul : nI S * nI stp = nI (S * stp) := nI_mul (by omega) (by omega) (by omega)
  have hl1 : lean - S * stp ≤ 9000 := by omega
  unfold bc_X2_advance_128
  refine ⟨_, sq_r (x1 := nI (lean - S * stp)) (by rw [h31, m3, m8, emul]; exact mx_nI (by omega) (by omega)) (bd_g (leanTo_eq n γ8 hl1 hd ht (by rw [h32]; exact f3) (by rw [h32]; exact f5)) (sq_g (bd_g (endBy_eq n _ (lean1 := lean - S * stp) (tick1 := tick + stp) ?_ ?_ (by omega) (by omega) (by omega)) (sq_g rfl)))), ?_⟩
  · simp [cp_1]
  · simp only [cp_1]
    simp [h31, m5, m8, nI_add]
  · refine ⟨?_, ?_, ⟨?_, ?_, ?_, ?_⟩, ?_, ⟨?_, ?_⟩, ?_, h2⟩
    · exact CE.tr hE (CE.tr (CE_cp (Or.inl rfl) _ _) (CE.tr (CE_cp (Or.inl rfl) _ _) (CE.tr (CE_cp (Or.inr (Or.inl rfl)) _ _) (CE.tr (CE_cp (Or.inr (Or.inl rfl)) _ _) (CE.tr (CE_cp (Or.inl rfl) _ _) (CE_cp (Or.inl rfl) _ _))))))
    · intro j hj
      simp only [cp_1]
      simp [hV j hj]
    · simp [cp_1]
    · simp [cp_1]
    · simp only [cp_1]
      simp [h31, m5, m8, nI_add]
    · simp [cp_1]
    · intro k hk
      simp only [cp_1]
      rw [if_neg (by omega), if_neg (by omega), if_neg (by omega), if_neg (by omega), if_neg (by omega), if_neg (by omega), h31]
    · simp [cp_1]
    · simp [cp_1]
    · intro k hk
      simp only [cp_1]
      rw [if_neg (by omega), if_neg (by omega), if_neg (by omega), if_neg (by omega), if_neg (by omega), if_neg (by omega), h32]
/-- one loss more, or none -/
def moreC (γ : CS) (tick X : Nat) : Prop := (γ.2.2.1 31 11 = none ∧ X = 0) ∨ ∃ q a s cs mf, γ.2.2.1 31 11 = some q ∧ LOr γ q a s cs ∧ γ.1 31 12 = nI mf ∧ mf ≤ 9999 ∧ ((tick < mf ∧ X = 0) ∨ (mf ≤ tick ∧ lw (γ.1 32) cs = nI X))
theorem adv_eq (n : Nat) (γ : CS) {nl lean tick stp d t X : Nat} {V kd : Nat → Nat} (hn : 21 ≤ n) (hnl : nl ≤ 8) (h9 : γ.1 5 9 = nI nl) (hst : ∀ i, i < nl → stepC γ V kd i) (hV : ∀ i, V i ≤ 9999) (hV0 : ∀ i, nl ≤ i → V i = 0) (hM : MD γ lean tick stp d t) (hl : lean ≤ 9000) (htk : tick ≤ 20000) (hstp : stp ≤ 10) (hd : d ≤ 99) (ht : t ≤ 9) (hmo : moreC γ tick X) (hX : X ≤ 9999) :
    ∃ γ1, fc_X2_advance n γ = some (0, γ1) ∧ AD γ γ1 V (lean - (sumV V 8 + X) * stp) (tick + stp) (enD (lean - (sumV V 8 + X) * stp) (sumV V 8 + X) (tick + stp) (lpB V kd 8)) d t := by
  have hS := sumV_le hV 8
  obtain ⟨γ8, k8, hE, ht8, hlp⟩ := adv_loop n γ nl V kd hn hnl h9 hst hV hV0 8 0 n γ rfl (by omega) (E33.rf γ) (fun j hj => absurd hj (by omega))
  have hC := E33_CE hE
  have h31 : γ8.1 31 = γ.1 31 := hE.2 31 (by decide) (by omega)
  have h32 : γ8.1 32 = γ.1 32 := hE.2 32 (by decide) (by omega)
  have start : fc_X2_advance n γ = bc_X2_advance_6 n (lc_X2_advance_6 n k8) γ8 (nI (sumV V 8)) (fI (lpB V kd 8)) (nI 8) := hlp
  rw [start]
  unfold bc_X2_advance_6
  rcases hmo with ⟨hnone, rfl⟩ | ⟨q, a, s, cs, mf, hq, hL, hmf, hmf9, hcase⟩
  · obtain ⟨γ1, g1, g2⟩ := adv_end n γ γ8 (V := V) (lp := lpB V kd 8) (S := sumV V 8) hM hl htk hstp hd ht (by omega) hC hE.1 h31 h32 ht8
    refine ⟨γ1, if_t (Int32.le_refl _) (sq_r (x1 := none) (by rw [hE.1]; exact hnone) g1), ?_⟩
    rw [Nat.add_zero]
    exact g2
  · have hq8 : γ8.2.2.1 31 11 = some q := by rw [hE.1]; exact hq
    have m12 : γ8.1 31 12 = nI mf := by rw [h31]; exact hmf
    have m5 : γ8.1 31 5 = nI tick := by rw [h31]; exact hM.2.2.1
    rcases hcase with ⟨hlt, rfl⟩ | ⟨hle, hX1⟩
    · obtain ⟨γ1, g1, g2⟩ := adv_end n γ γ8 (V := V) (lp := lpB V kd 8) (S := sumV V 8) hM hl htk hstp hd ht (by omega) hC hE.1 h31 h32 ht8
      refine ⟨γ1, if_t (Int32.le_refl _) (sq_r hq8 (if_t (by rw [m5, m12]; exact nI_lt hlt (by omega)) g1)), ?_⟩
      rw [Nat.add_zero]
      exact g2
    · have hL8 := E33_L hE hL
      obtain ⟨f1, hb⟩ := byLaw_eq n γ8 hn hL8
      rw [h32, hX1] at hb
      have hs := hL.2.2.2.2.2.1
      have h20 := hL.2.2.2.2.2.2.2.1
      have hs34 := (pk_s hs).1
      have hE9 := E33_st hE hs h20 f1
      obtain ⟨γ1, g1, g2⟩ := adv_end n γ (cpr γ8 s f1) (V := V) (lp := lpB V kd 8) (S := sumV V 8 + X) hM hl htk hstp hd ht (by omega) (E33_CE hE9) hE9.1 (by rw [cpr_ne _ _ _ (by omega)]; exact h31) (by rw [cpr_ne _ _ _ (by omega)]; exact h32) (fun j hj => by rw [cpr_ne _ _ _ (by omega)]; exact ht8 j hj)
      exact ⟨γ1, if_t (Int32.le_refl _) (sq_r hq8 (if_f (by rw [m5, m12]; exact nI_nlt hle (by omega)) (sq_r hq8 (ck_g hL8.1 (bd_g hb (sq_r (nI_add _ _) g1)))))), g2⟩
