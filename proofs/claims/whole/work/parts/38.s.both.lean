/-! a tick in both -/
theorem sumV_tail {V : Nat → Nat} {nl : Nat} (h : ∀ i, nl ≤ i → V i = 0) : ∀ m, sumV V (nl + m) = sumV V nl := by
  intro m
  induction m with
  | zero => rfl
  | succ m ih => rw [← Nat.add_assoc, sumV, ih, h _ (by omega)]; rfl
theorem lpB_tail {V kd : Nat → Nat} {nl : Nat} (h : ∀ i, nl ≤ i → V i = 0) : ∀ m, lpB V kd (nl + m) = lpB V kd nl := by
  intro m
  induction m with
  | zero => rfl
  | succ m ih => rw [← Nat.add_assoc, lpB, ih, h _ (by omega)]; simp
theorem sumV_mono {V : Nat → Nat} : ∀ (m i : Nat), sumV V i ≤ sumV V (i + m) := by
  intro m
  induction m with
  | zero => intro i; exact Nat.le_refl _
  | succ m ih => intro i; rw [← Nat.add_assoc, sumV]; exact Nat.le_trans (ih i) (Nat.le_add_right _ _)
theorem lp_same {V kd : Nat → Nat} {lean stp N : Nat} (hs : 1 ≤ stp) (hlt : sumV V N * stp < lean) : ∀ i, i ≤ N → lpM V kd lean stp i = lpB V kd i := by
  intro i
  induction i with
  | zero => intro _; rfl
  | succ i ih =>
    intro hi
    rw [lpM, lpB, ih (by omega)]
    have h1 : sumV V (i + 1) ≤ sumV V N := by
      have := sumV_mono (V := V) (N - (i + 1)) (i + 1)
      rw [show i + 1 + (N - (i + 1)) = N by omega] at this
      exact this
    have h2 : sumV V (i + 1) * stp ≤ sumV V N * stp := Nat.mul_le_mul_right _ h1
    have h3 : sumV V (i + 1) * stp = sumV V i * stp + V i * stp := by simp only [sumV]; rw [Nat.add_mul]
    have h4 : prt V lean stp i = V i * stp := by unfold prt; omega
    have h5 : (0 < prt V lean stp i) ↔ 0 < V i := by
      rw [h4]
      constructor
      · intro h; rcases Nat.eq_zero_or_pos (V i) with e | e
        · rw [e] at h; simp at h
        · exact e
      · intro h; exact Nat.mul_pos h (by omega)
    congr 1
    by_cases c1 : 0 < V i <;> by_cases c2 : kd i = 3 <;> simp [c1, c2, h5]
theorem goes_eq (n : Nat) (μ : MS) {p f lean tick stp d t nl X : Nat} {V kd : Nat → Nat} (hn : 21 ≤ n) (hnl : nl ≤ 8) (h21 : μ.1 0 21 = nI nl) (hI : IN μ p f lean tick d t) (hst : ∀ i, i < nl → stepM μ p f lean d t V kd i) (hmo : moreM μ p f lean d t nl X) (hV : ∀ i, V i ≤ 9999) (hV0 : ∀ i, nl ≤ i → V i = 0) (hX : X ≤ 9999) (hl : lean ≤ 9000) (htk : tick ≤ 20000) (hs1 : 1 ≤ stp) (hstp : stp ≤ 10) (hd : d ≤ 99) (ht : t ≤ 9) :
    ∃ μ1, fm_goes n μ (nI stp) = some (nI (enD (lean - (sumV V 8 + X) * stp) (sumV V 8 + X) (tick + stp) (lpB V kd 8)), μ1) ∧ ME μ μ1 ∧ μ1.1 0 26 = nI (lean - (sumV V 8 + X) * stp) ∧ μ1.1 0 29 = nI (tick + stp) ∧ (∀ k, k ≠ 26 → k ≠ 29 → k ≠ 34 → μ1.1 0 k = μ.1 0 k) ∧ ∀ j, j < nl → μ1.1 18 j = nI (prt V lean stp j) := by
  have eS : sumV V 8 = sumV V nl := by
    have := sumV_tail hV0 (8 - nl)
    rw [show nl + (8 - nl) = 8 by omega] at this
    exact this
  have eL : lpB V kd 8 = lpB V kd nl := by
    have := lpB_tail (kd := kd) hV0 (8 - nl)
    rw [show nl + (8 - nl) = 8 by omega] at this
    exact this
  obtain ⟨μ1, g1, g2, g3, g4⟩ := rec_loop n μ (stp := stp) hn hnl h21 hI hst hmo hV hX hl hstp hd ht nl 0 n (mp μ 0 34 0) (by omega) (by omega) (E18_34 (E18.rf μ) 0) (by rw [mp_1, if_pos ⟨rfl, rfl⟩]; rfl) (fun j hj => absurd hj (by omega))
  have hSle := sumV_le hV nl
  have hrec : fm_reckons n μ (nI stp) = some (nI (lean - (lean - (sumV V nl + X) * stp)), μ1) := by
    unfold fm_reckons
    refine sq_r hI.2.1 (sq_g (sq_g ?_))
    have e0 : lean - sumV V 0 * stp = lean := by simp [sumV]
    rw [e0] at g4
    exact g4
  rw [eS, eL]
  have e26 : μ1.1 0 26 = nI lean := by rw [g1.2.2 26 (by decide)]; exact hI.2.1
  have e29 : μ1.1 0 29 = nI tick := by rw [g1.2.2 29 (by decide)]; exact hI.2.2.2.1
  obtain ⟨L1, hL1⟩ : ∃ L1, L1 = lean - (sumV V nl + X) * stp := ⟨_, rfl⟩
  have hL1le : L1 ≤ lean := by omega
  rw [← hL1] at hrec ⊢
  have esub : nI lean - nI (lean - L1) = nI L1 := by rw [nI_sub (by omega) (by omega)]; congr 1; omega
  have f26 : (mp (mp μ1 0 26 (nI L1)) 0 29 (nI (tick + stp))).1 0 26 = nI L1 := by simp [mp_1]
  have f29 : (mp (mp μ1 0 26 (nI L1)) 0 29 (nI (tick + stp))).1 0 29 = nI (tick + stp) := by simp [mp_1]
  have f34 : (mp (mp μ1 0 26 (nI L1)) 0 29 (nI (tick + stp))).1 0 34 = fI (lpM V kd lean stp nl) := by simp [mp_1, g2]
  refine ⟨mp (mp μ1 0 26 (nI L1)) 0 29 (nI (tick + stp)), ?_, ME.tr (E18_ME g1) (ME.tr (ME_mp0 (by omega) _) (ME_mp0 (by omega) _)), f26, f29, fun k h1 h2 h3 => by simp [mp_1, h1, h2, g1.2.2 k h3], fun j hj => by rw [mp_ne _ _ _ _ (by decide), mp_ne _ _ _ _ (by decide)]; exact g3 j hj⟩
  unfold fm_goes enD
  refine bd_g hrec (sq_r (x1 := mp μ1 0 26 (nI L1)) (by rw [e26, esub]) (sq_r (x1 := mp (mp μ1 0 26 (nI L1)) 0 29 (nI (tick + stp))) (by rw [mp_1, if_neg (by decide), e29, nI_add]) ?_))
  by_cases c1 : L1 = 0
  · rw [if_pos c1]
    exact if_t (by rw [f26, c1]; rfl) rfl
  · rw [if_neg c1]
    refine if_f (by rw [f26]; exact nI_ne0 (by omega) (by omega)) ?_
    have hmul : (sumV V nl + X) * stp = sumV V nl * stp + X * stp := Nat.add_mul _ _ _
    have elp : lpM V kd lean stp nl = lpB V kd nl := lp_same hs1 (by omega) nl (Nat.le_refl _)
    rw [elp] at f34
    cases hb : lpB V kd nl with
    | true =>
      rw [hb] at f34
      rw [if_pos (show true = true from rfl)]
      exact if_f (by rw [f34]; decide) rfl
    | false =>
      rw [hb] at f34
      rw [if_neg (show ¬ (false = true) by decide)]
      refine if_t (by rw [f34]; rfl) ?_
      by_cases c3 : sumV V nl + X = 0
      · rw [if_pos c3]
        refine if_t ?_ rfl
        have : lean - L1 = 0 := by rw [hL1, c3]; simp
        rw [this]; rfl
      · rw [if_neg c3]
        have hp : 1 ≤ (sumV V nl + X) * stp := Nat.mul_pos (by omega) (by omega)
        refine if_f (nI_ne0 (by omega) (by omega)) ?_
        by_cases c4 : tick + stp < 9999
        · rw [if_pos c4]
          exact if_t (by rw [f29]; exact nI_lt (b := 9999) c4 (by omega)) rfl
        · rw [if_neg c4]
          exact if_f (by rw [f29]; exact nI_nlt (b := 9999) (by omega) (by omega)) rfl
/-- the losses, in both -/
def LL (γ : CS) (μ : MS) (nl : Nat) : Prop := nl ≤ 8 ∧ γ.1 5 9 = nI nl ∧ μ.1 0 21 = nI nl ∧ ∀ i, i < nl → ∃ q a s cs fr kd f t, LSr γ 5 (live μ) i q a s cs fr kd f t
/-- the mind of the class and what the reference has at hand -/
def MR (γ : CS) (μ : MS) (nl p f lean tick stp : Nat) : Prop := ∃ d t hh : Nat, (p < 6 ∧ f < 4 ∧ lean ≤ 9000 ∧ d ≤ 99 ∧ t ≤ 9 ∧ hh ≤ 9) ∧ MD γ lean tick stp d t ∧ IN μ p f lean tick d t ∧ (γ.1 32 2 = μ.1 3 p ∧ γ.1 32 4 = μ.1 5 p ∧ γ.1 32 6 = nI hh ∧ μ.1 8 f = nI hh ∧ γ.1 32 7 = μ.1 9 f) ∧ (γ.1 31 9 = μ.1 0 30 ∧ γ.1 31 10 = if μ.1 6 p < 5 then 0 else 1) ∧ (∀ i, i < nl → (bitI (γ.1 31 7) i = 0 ↔ bitI (μ.1 0 28) i = 0)) ∧ ((γ.2.2.1 31 11 = none ∧ μ.1 0 31 = -1) ∨ ∃ i mf q, i < nl ∧ γ.2.2.1 31 11 = some q ∧ γ.2.2.1 7 i = some q ∧ μ.1 0 31 = nI i ∧ γ.1 31 12 = nI mf ∧ μ.1 0 32 = nI mf ∧ mf ≤ 9999)
