section
/-! PLATES read by both -/
theorem le_TX {γ γ1 : CS} (h : γ1.2 = γ.2) : decide (γ.2.2.2.2.2 ≤ γ1.2.2.2.2.2) = true := by rw [h]; exact dec_t (Nat.le_refl _)
section
variable {γ : CS} {μ : MS} {L : Nat} {B : Nat → Nat} {p : Nat}
theorem part_f (n : Nat) (hn : 10 ≤ n) {f : Nat} (hf : f < 2 ^ 31) (h : γ.1 1 3 = nI f) {c : Nat} (hc : c < 2 ^ 31) (a b : Int32) : fc_X6_readPart n γ (nI c) a b = some (0, γ) := by
  unfold fc_X6_readPart
  refine bd_g (a := 0) (b := γ) ?_ (bd_g (c_number_f n hn hf h a b) rfl)
  unfold fc_X6_expect
  exact bd_g (c_next_f n hf h) (if_f (fun e => nI_m1 hc e.symm) (bd_g (c_fail_f n hf h _) rfl))
theorem part_both (n : Nat) (hn : 10 ≤ n) (hT : yTB L B) (T : TC γ L B p) (M : TM μ L B p) {c a b : Nat} (hc : c < 2 ^ 31) (ha : a < 2 ^ 31) (hb : b < 2 ^ 31) : (∃ v p' γ1 μ1, (a ≤ v ∧ v ≤ b) ∧ (p < p' ∧ p' ≤ L) ∧ fc_X6_readPart n γ (nI c) (nI a) (nI b) = some (nI v, γ1) ∧ yTX γ γ1 ∧ TC γ1 L B p' ∧ fm_part n μ (nI c) (nI a) (nI b) = some (nI v, μ1) ∧ MP μ μ1 ∧ TM μ1 L B p') ∨ (∃ f r γ1 μ1, f ≤ 20 ∧ fc_X6_readPart n γ (nI c) (nI a) (nI b) = some (r, γ1) ∧ yTX γ γ1 ∧ γ1.1 1 3 = nI f ∧ fm_part n μ (nI c) (nI a) (nI b) = some (-1, μ1) ∧ MP μ μ1 ∧ μ1.1 0 10 = nI f) := by
  have hL := hT.1
  by_cases h : p < L ∧ B p = c
  · have ex : fc_X6_expect n γ (nI c) = some (0, cp γ 1 4 (nI (p + 1))) := by
      unfold fc_X6_expect
      exact bd_g (c_next n hT T) (if_t (sg_is h.1 h.2) (sq_r (x1 := cp γ 1 4 (nI (p + 1))) (by rw [T.2.2.2.1, nI_1]) rfl))
    have T1 : TC (cp γ 1 4 (nI (p + 1))) L B (p + 1) := TC_at T h.1
    have M1 : TM (mp μ 0 10 (nI (p + 1))) L B (p + 1) := TM_at M h.1
    rcases dgb_cs L B (p + 1) with hd | hd
    · obtain ⟨γ1, j', r1, r2, r3, r4⟩ := c_number n hn hT T1 hd (nI a) (nI b)
      obtain ⟨μ1, s1, s2, s3⟩ := m_number n hn hT M1 hd
      have hv := nv_in hd
      by_cases hr : a ≤ nv L B (p + 1) ∧ nv L B (p + 1) ≤ b
      · refine Or.inl ⟨nv L B (p + 1), ne L B (p + 1), γ1, μ1, hr, ⟨by omega, hv.2.2⟩, ?_, (TX_cp γ (by decide) _).tr (TX_TP r3), r4, ?_, (MP_mp μ _).tr s2, s3⟩
        · unfold fc_X6_readPart
          exact bd_g ex (bd_g (r1.trans (c_65_in n _ hr.1 hr.2 hb r2)) rfl)
        · unfold fm_part
          exact bd_g (m_sign n hT M) (if_t (sg_is h.1 h.2) (sq_r (x1 := mp μ 0 10 (nI (p + 1))) (by rw [M.2.2.1, nI_1]) (sq_r (x1 := nI (p + 1)) M1.2.2.1 (bd_g s1 (if_f (nI_pos (by omega)) (bd_g (a := 1) (b := μ1) (if_f (nI_nlt hr.1 (by omega)) (if_f (nI_nlt hr.2 hb) rfl)) (if_f one_ne rfl)))))))
      · refine Or.inr ⟨p + 1, nI (nv L B (p + 1)), cp γ1 1 3 (nI (p + 1)), mp μ1 0 10 (nI (p + 1)), by omega, ?_, ((TX_cp γ (by decide) _).tr (TX_TP r3)).tr (TX_cp _ (by decide) _), by rw [cp_1, if_pos ⟨rfl, rfl⟩], ?_, ((MP_mp μ _).tr s2).tr (MP_mp _ _), by rw [mp_1, if_pos ⟨rfl, rfl⟩]⟩
        · unfold fc_X6_readPart
          exact bd_g ex (bd_g (r1.trans (c_65_out n _ hr (by omega) ha hb r2 r4.2.2.1)) rfl)
        · unfold fm_part
          have hin : fm_isIn n μ1 (nI (nv L B (p + 1))) (nI a) (nI b) = some (0, μ1) := by
            unfold fm_isIn
            by_cases h1 : a ≤ nv L B (p + 1)
            · exact if_f (nI_nlt h1 (by omega)) (if_t (nI_lt (by omega) (by omega)) rfl)
            · exact if_t (nI_lt (by omega) ha) rfl
          exact bd_g (m_sign n hT M) (if_t (sg_is h.1 h.2) (sq_r (x1 := mp μ 0 10 (nI (p + 1))) (by rw [M.2.2.1, nI_1]) (sq_r (x1 := nI (p + 1)) M1.2.2.1 (bd_g s1 (if_f (nI_pos (by omega)) (bd_g hin (if_t rfl (sq_g rfl))))))))
    · refine Or.inr ⟨p + 1, 0, cp (cp γ 1 4 (nI (p + 1))) 1 3 (nI (p + 1)), mp μ 0 10 (nI (p + 1)), by omega, ?_, (TX_cp γ (by decide) _).tr (TX_cp _ (by decide) _), by rw [cp_1, if_pos ⟨rfl, rfl⟩], ?_, MP_mp μ _, M1.2.2.1⟩
      · unfold fc_X6_readPart
        exact bd_g ex (bd_g (c_number0 n hn hT T1 hd _ _) rfl)
      · unfold fm_part
        exact bd_g (m_sign n hT M) (if_t (sg_is h.1 h.2) (sq_r (x1 := mp μ 0 10 (nI (p + 1))) (by rw [M.2.2.1, nI_1]) (sq_r (x1 := nI (p + 1)) M1.2.2.1 (bd_g (m_number0 n hT M1 hd) (if_t (by decide) rfl)))))
  · have hns := sg_isnt hT hc h
    have hf3 : (cp γ 1 3 (nI p)).1 1 3 = nI p := by rw [cp_1, if_pos ⟨rfl, rfl⟩]
    refine Or.inr ⟨p, 0, cp γ 1 3 (nI p), μ, by have := T.1; omega, ?_, TX_cp γ (by decide) _, hf3, ?_, MP.rf μ, M.2.2.1⟩
    · unfold fc_X6_readPart
      refine bd_g (a := 0) (b := cp γ 1 3 (nI p)) ?_ (bd_g (c_number_f n hn (by have := T.1; omega) hf3 _ _) rfl)
      unfold fc_X6_expect
      exact bd_g (c_next n hT T) (if_f hns (bd_g (c_fail n T.2.2.1 _) (by rw [T.2.2.2.1])))
    · unfold fm_part
      exact bd_g (m_sign n hT M) (if_f hns rfl)
/-- a part that may be there -/
def OPT (n : Nat) (γ : CS) (c : Nat) {β : Type} (K : CS → Int32 → Option β) : Option β := bd (fc_X6_next n γ) (fun r1 σ2 => ck (decide (γ.2.2.2.2.2 ≤ σ2.2.2.2.2.2)) (if (r1 = nI c) then (bd (fc_X6_readPart n σ2 (nI c) (nI 0) (nI 9)) (fun r5 σ6 => ck (decide (σ2.2.2.2.2.2 ≤ σ6.2.2.2.2.2)) (K σ6 r5))) else (K σ2 0)))
theorem OPT_f (n : Nat) {f : Nat} (hf : f < 2 ^ 31) (h : γ.1 1 3 = nI f) {c : Nat} (hc : c < 2 ^ 31) {β : Type} (K : CS → Int32 → Option β) : OPT n γ c K = K γ 0 := by
  unfold OPT
  exact bd_g (c_next_f n hf h) (ck_g (dec_t (Nat.le_refl _)) (if_f (fun e => nI_m1 hc e.symm) rfl))
theorem opt_both (n : Nat) (hn : 10 ≤ n) (hT : yTB L B) (T : TC γ L B p) (M : TM μ L B p) {c : Nat} (hc : c < 2 ^ 31) : (∃ v p' γ1 μ1, v ≤ 9 ∧ (p ≤ p' ∧ p' ≤ L) ∧ (∀ (β : Type) (K : CS → Int32 → Option β), OPT n γ c K = K γ1 (nI v)) ∧ yTX γ γ1 ∧ TC γ1 L B p' ∧ fm_perhaps n μ (nI c) = some (nI v, μ1) ∧ MP μ μ1 ∧ TM μ1 L B p') ∨ (∃ f r γ1 μ1, f ≤ 20 ∧ (∀ (β : Type) (K : CS → Int32 → Option β), OPT n γ c K = K γ1 r) ∧ yTX γ γ1 ∧ γ1.1 1 3 = nI f ∧ fm_perhaps n μ (nI c) = some (-1, μ1) ∧ MP μ μ1 ∧ μ1.1 0 10 = nI f) := by
  by_cases h : p < L ∧ B p = c
  · rcases part_both n hn hT T M hc (a := 0) (b := 9) (by omega) (by omega) with ⟨v, p', γ1, μ1, r1, r2, r3, r4, r5, r6, r7, r8⟩ | ⟨f, r, γ1, μ1, r1, r2, r3, r4, r5, r6, r7⟩
    · refine Or.inl ⟨v, p', γ1, μ1, r1.2, ⟨by omega, r2.2⟩, fun β K => ?_, r4, r5, ?_, r7, r8⟩
      · unfold OPT
        exact bd_g (c_next n hT T) (ck_g (dec_t (Nat.le_refl _)) (if_t (sg_is h.1 h.2) (bd_g r3 (ck_g (le_TX r4.1) rfl))))
      · unfold fm_perhaps
        exact bd_g (m_sign n hT M) (if_t (sg_is h.1 h.2) (bd_g r6 rfl))
    · refine Or.inr ⟨f, r, γ1, μ1, r1, fun β K => ?_, r3, r4, ?_, r6, r7⟩
      · unfold OPT
        exact bd_g (c_next n hT T) (ck_g (dec_t (Nat.le_refl _)) (if_t (sg_is h.1 h.2) (bd_g r2 (ck_g (le_TX r3.1) rfl))))
      · unfold fm_perhaps
        exact bd_g (m_sign n hT M) (if_t (sg_is h.1 h.2) (bd_g r5 rfl))
  · have hns := sg_isnt hT hc h
    refine Or.inl ⟨0, p, γ, μ, by omega, ⟨Nat.le_refl _, T.1⟩, fun β K => ?_, yTX.rf γ, T, ?_, MP.rf μ, M⟩
    · unfold OPT
      exact bd_g (c_next n hT T) (ck_g (dec_t (Nat.le_refl _)) (if_f hns rfl))
    · unfold fm_perhaps
      exact bd_g (m_sign n hT M) (if_f hns rfl)
/-! a new cell -/
theorem PO_cnw (γ : CS) (k m : Nat) (i : Nat → Int32) (p : Nat → Option Nat) : PO γ (cnw γ k m i p) := fun q k' hq => by
  obtain ⟨q1, q2, q3⟩ := pk_s hq
  have hne : q ≠ γ.2.2.2.2.2 := by omega
  refine ⟨?_, va_up_ne _ _ hne, va_up_ne _ _ hne, fun _ => va_up_ne _ _ hne⟩
  unfold pk
  simp only [Bool.and_eq_true, decide_eq_true_eq]
  exact ⟨⟨q1, Nat.lt_succ_of_lt q2⟩, (va_up_ne _ _ hne).trans q3⟩
theorem pk_new (γ : CS) (h : 34 ≤ γ.2.2.2.2.2) (k m : Nat) (i : Nat → Int32) (p : Nat → Option Nat) : pk (cnw γ k m i p) γ.2.2.2.2.2 k = true := by
  unfold pk
  simp only [Bool.and_eq_true, decide_eq_true_eq]
  exact ⟨⟨h, Nat.lt_succ_self _⟩, by simp [cnw, va_up]⟩
theorem cwf_new {γ : CS} (h : cwf γ) (k m : Nat) (i : Nat → Int32) : cwf (cnw γ k m i (fun _ => none)) := fun a x q hq => by
  have hq : va_up γ.2.2.1 γ.2.2.2.2.2 (fun _ => none) a x = some q := hq
  show q < γ.2.2.2.2.2 + 1
  by_cases e : a = γ.2.2.2.2.2
  · subst e
    simp [va_up] at hq
  · rw [va_up_ne _ _ e] at hq
    have := h a x q hq
    omega
/-- the new plate in the class, in the reference -/
def plN (γ : CS) (w d e h t : Nat) : CS := cp (cp (cp (cp (cp (cnw γ 3 0 (fun _ => 0) (fun _ => none)) γ.2.2.2.2.2 0 (nI w)) γ.2.2.2.2.2 1 (nI d)) γ.2.2.2.2.2 2 (nI e)) γ.2.2.2.2.2 3 (nI h)) γ.2.2.2.2.2 4 (nI t)
def plM (μ : MS) (i w d e h t : Nat) : MS := mp (mp (mp (mp (mp μ 3 i (nI w)) 4 i (nI d)) 5 i (nI e)) 6 i (nI h)) 7 i (nI t)
theorem f94 (n : Nat) {f : Nat} (hf : f < 2 ^ 31) (h : γ.1 1 3 = nI f) (x1 x2 x3 x4 x5 : Int32) : bc_X6_readPlate_94 n γ x1 x2 x3 x4 x5 = some (none, γ) := by
  unfold bc_X6_readPlate_94
  refine bd_g (a := 0) (b := γ) ?_ (ck_g (dec_t (Nat.le_refl _)) (if_f (by rw [h]; exact nI_m1 hf) rfl))
  unfold fc_X6_expectEnd
  exact bd_g (c_next_f n hf h) (if_t rfl rfl)
theorem e94 (n : Nat) (hT : yTB L B) (T : TC γ L B p) (hp : p < L) (x1 x2 x3 x4 x5 : Int32) : bc_X6_readPlate_94 n γ x1 x2 x3 x4 x5 = some (none, cp γ 1 3 (nI p)) := by
  have hL := hT.1
  have hB := hT.2 p hp
  unfold bc_X6_readPlate_94
  refine bd_g (a := 0) (b := cp γ 1 3 (nI p)) ?_ (ck_g (dec_t (Nat.le_refl _)) (if_f (by rw [cp_1, if_pos ⟨rfl, rfl⟩]; exact nI_m1 (by omega)) rfl))
  unfold fc_X6_expectEnd
  exact bd_g (c_next n hT T) (if_f (by rw [sg_is hp rfl]; exact nI_m1 (by omega)) (bd_g (c_fail n T.2.2.1 _) (by rw [T.2.2.2.1])))
theorem o94 (n : Nat) (hT : yTB L B) (T : TC γ L B p) (hp : ¬ p < L) (hw : cwf γ) (h34 : 34 ≤ γ.2.2.2.2.2) (w d e h t : Nat) : bc_X6_readPlate_94 n γ (nI w) (nI d) (nI e) (nI h) (nI t) = some (some γ.2.2.2.2.2, plN γ w d e h t) := by
  have hk := pk_new γ h34 3 0 (fun _ => 0) (fun _ => none)
  unfold bc_X6_readPlate_94
  refine bd_g (a := 0) (b := γ) ?_ (ck_g (dec_t (Nat.le_refl _)) (if_t T.2.2.1 ((ckp_t hw).trans (sq_g (sq_g (bd_g (a := 0) (b := plN γ w d e h t) ?_ (ck_g (dec_t (Nat.le_refl _)) (ck_g (dec_t (Nat.lt_succ_self _)) rfl))))))))
  · unfold fc_X6_expectEnd
    exact bd_g (c_next n hT T) (if_t (sg_end hp) rfl)
  · unfold fc_X3_init
    exact ck_g hk (sq_g (ck_g hk (sq_g (ck_g hk (sq_g (ck_g hk (sq_g (ck_g hk (sq_g rfl)))))))))
end
end
