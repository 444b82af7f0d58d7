section
/-! the whole LAW -/
def lwN (γ : CS) (c : Nat) : CS := cpr (cnw γ 9 c (fun _ => 0) (fun _ => none)) γ.2.2.2.2.2 (va_cpy ((cnw γ 9 c (fun _ => 0) (fun _ => none)).1 3) ((cnw γ 9 c (fun _ => 0) (fun _ => none)).1 γ.2.2.2.2.2) 0 0 c)
theorem c_copy (n : Nat) {γ : CS} (hw : cwf γ) (h34 : 34 ≤ γ.2.2.2.2.2) {c : Nat} (hc : c ≤ 19) : fc_J7_copyOf_59c91 n γ (nI c) = some (some γ.2.2.2.2.2, lwN γ c) := by
  have hk := pk_new γ h34 9 c (fun _ => 0) (fun _ => none)
  have ec : Int32.toNatClampNeg (nI c) = c := nI_clamp (by omega)
  have e0 : Int32.toNatClampNeg 0 = 0 := by decide
  have hN : (cnw γ 9 c (fun _ => 0) (fun _ => none)).2.2.2.2.1 γ.2.2.2.2.2 = c := by
    show va_up γ.2.2.2.2.1 γ.2.2.2.2.2 c γ.2.2.2.2.2 = c
    simp [va_up]
  unfold fc_J7_copyOf_59c91
  refine if_f (fun e => absurd ((nI_eq (b := 20) (by omega) (by omega)).mp e) (by omega)) ((ckp_t hw).trans (ck_g (dec_t (nI_pos (by omega))) (ck_g (dec_t (by rw [ec]; omega)) (sq_g (sq_r (x1 := cnw γ 9 c (fun _ => 0) (fun _ => none)) (by rw [ec]) (sq_r (x1 := nI c) (if_pos (nI_lt (b := 20) (by omega) (by omega))) (ck_g hk (ck_g (dec_t (nI_pos (by omega))) (ck_g (dec_t (by rw [e0, ec]; omega)) (ck_g (dec_t (by rw [e0, ec, hN]; omega)) (sq_r (x1 := lwN γ c) ?_ rfl)))))))))))
  unfold lwN
  rw [e0, ec]
theorem readLaw_both (n : Nat) (hn : 100 ≤ n) {γ : CS} {μ : MS} {L nl t0 : Nat} {B : Nat → Nat} (hT : yTB L B) (hw : cwf γ) (h34 : 34 ≤ γ.2.2.2.2.2) (t1 : γ.1 1 2 = nI L) (t2 : ∀ i, i < L → γ.1 2 i = nI (B i)) (m1 : μ.1 0 9 = nI L) (m2 : ∀ i, i < L → μ.1 2 i = nI (B i)) (hnl : nl ≤ 7) (m3 : μ.1 0 21 = nI nl) (m4 : μ.1 15 nl = nI t0) (ht0 : t0 ≤ 20 * nl) : (∃ cs γ1 μ1, fc_X6_readLaw n γ = some (some γ.2.2.2.2.2, lwN γ1 cs.length) ∧ yTX γ γ1 ∧ (∀ k, k < cs.length → γ1.1 3 k = cs.getD k 0) ∧ cs.length ≤ 19 ∧ dp cs 0 = some 1 ∧ fm_readsLaw n μ = some (1, μ1) ∧ LX t0 μ μ1 ∧ μ1.1 0 22 = nI (t0 + cs.length) ∧ ∀ k, k < cs.length → tkc (μ1.1 14 (t0 + k)) (cs.getD k 0)) ∨ (∃ f γ1 μ1, f ≤ 20 ∧ fc_X6_readLaw n γ = some (none, γ1) ∧ yTX γ γ1 ∧ γ1.1 1 3 = nI f ∧ fm_readsLaw n μ = some (0, μ1) ∧ LX t0 μ μ1 ∧ μ1.1 0 10 = nI f) := by
  have hL := hT.1
  obtain ⟨γ0, e0⟩ : ∃ z, z = cp (cp (cp γ 1 4 0) 1 3 (-1)) 1 5 0 := ⟨_, rfl⟩
  have hX0 : yTX γ γ0 := by subst e0; exact ((TX_cp γ (by decide) _).tr (TX_cp _ (by decide) _)).tr (TX_cp _ (by decide) _)
  have T0 : TCL γ0 L B 0 [] := by
    subst e0
    refine ⟨⟨Nat.zero_le _, ?_, ?_, ?_, ?_⟩, ?_, fun k hk => absurd hk (Nat.not_lt_zero _)⟩
    · rw [cp_1, if_neg (by omega), cp_1, if_neg (by omega), cp_1, if_neg (by omega)]; exact t1
    · rw [cp_1, if_neg (by omega), cp_1, if_pos ⟨rfl, rfl⟩]
    · rw [cp_1, if_neg (by omega), cp_1, if_neg (by omega), cp_1, if_pos ⟨rfl, rfl⟩]; rfl
    · rw [cp_ne _ _ _ _ (by decide), cp_ne _ _ _ _ (by decide), cp_ne _ _ _ _ (by decide)]; exact t2
    · rw [cp_1, if_pos ⟨rfl, rfl⟩]; rfl
  have hC : ∀ {r} (γ5 : CS), fc_X6_readSum 8 n γ0 (nI 0) = some (0, γ5) → yTX γ0 γ5 → (bd (fc_X6_expectEnd n γ5) (fun _ σ9 => ck (decide (γ5.2.2.2.2.2 ≤ σ9.2.2.2.2.2)) (if ((σ9.1 1 3) = (-1)) then (bd (fc_J7_copyOf_59c91 n σ9 (σ9.1 1 5)) (fun r13 σ14 => ck (decide (σ9.2.2.2.2.2 ≤ σ14.2.2.2.2.2)) (some (r13, σ14)))) else (some (none, σ9))))) = r → fc_X6_readLaw n γ = r := fun γ5 h1 h2 h3 => by
    unfold fc_X6_readLaw
    exact bd_g (a := 0) (b := cp (cp γ 1 4 0) 1 3 (-1)) rfl (ck_g (dec_t (Nat.le_refl _)) (sq_r e0.symm (bd_g h1 (ck_g (le_TX h2.1) h3))))
  clear e0
  obtain ⟨μ0, f0⟩ : ∃ z, z = mp (mp (mp (mp μ 0 10 (nI 0)) 0 22 (nI t0)) 0 23 0) 0 24 0 := ⟨_, rfl⟩
  have hY0 : LX t0 μ μ0 := by subst f0; exact (((LX_0 μ (by omega) _).tr (LX_0 _ (by omega) _)).tr (LX_0 _ (by omega) _)).tr (LX_0 _ (by omega) _)
  have M0 : LM μ0 L B 0 t0 [] [] 0 := by
    subst f0
    refine ⟨⟨Nat.zero_le _, ?_, ?_, ?_⟩, ⟨?_, fun k hk => absurd hk (Nat.not_lt_zero _)⟩, ⟨?_, fun k hk => absurd hk (Nat.not_lt_zero _)⟩, ?_⟩
    · rw [mp_1, if_neg (by omega), mp_1, if_neg (by omega), mp_1, if_neg (by omega), mp_1, if_neg (by omega)]; exact m1
    · rw [mp_1, if_neg (by omega), mp_1, if_neg (by omega), mp_1, if_neg (by omega), mp_1, if_pos ⟨rfl, rfl⟩]
    · rw [mp_ne _ _ _ _ (by decide), mp_ne _ _ _ _ (by decide), mp_ne _ _ _ _ (by decide), mp_ne _ _ _ _ (by decide)]; exact m2
    · rw [mp_1, if_neg (by omega), mp_1, if_neg (by omega), mp_1, if_pos ⟨rfl, rfl⟩]; rfl
    · rw [mp_1, if_neg (by omega), mp_1, if_pos ⟨rfl, rfl⟩]; rfl
    · rw [mp_1, if_pos ⟨rfl, rfl⟩]; rfl
  have hMm : ∀ {r}, lm_readsLaw_30 n n μ0 1 = r → fm_readsLaw n μ = r := fun h => by
    unfold fm_readsLaw
    have e21 : (mp μ 0 10 (nI 0)).1 0 21 = nI nl := by rw [mp_1, if_neg (by omega)]; exact m3
    refine sq_r (x1 := mp μ 0 10 (nI 0)) rfl (ck_g (by rw [e21]; exact ib_nI (by omega) (by omega)) (sq_r (x1 := nI t0) (by rw [e21, nI_clamp (by omega), mp_ne _ _ _ _ (by decide)]; exact m4) (sq_g (sq_g (sq_r (x1 := μ0) f0.symm (sq_g h))))))
  clear f0
  have hS := sum_all n hn hT (t0 := t0) (by omega) 4 0 (by omega) γ0 μ0 0 [] [] 0 ⟨T0, M0, by simp, rfl⟩ (Or.inl rfl)
  have hS : LR n L B t0 0 0 0 [] 1 γ0 μ0 (fc_X6_readSum 8 n γ0 (nI 0)) (Esu L B) := hS
  rcases hS with ⟨γ2, μ2, p', T, R, j, a1, a2, a3, a4, a5, a6, a7, a8, a9, a10⟩ | ⟨γ2, μ2, f, j, a1, a2, a3, a4, a5, a6, a7, a8⟩
  · have hp' : p' ≤ L := a3.1.1
    have a8 : T.length + (0 + R.length) ≤ p' := a8
    have a5 : LM μ2 L B p' t0 T R.reverse 0 := by simpa using a5
    obtain ⟨k, hk⟩ : ∃ k, n = (k + 1) + j := ⟨n - 1 - j, by omega⟩
    by_cases hp : p' < L
    · refine Or.inr ⟨p', cp γ2 1 3 (nI p'), μ2, by omega, hC γ2 a1 a2 ?_, (hX0.tr a2).tr (TX_cp _ (by decide) _), by rw [cp_1, if_pos ⟨rfl, rfl⟩], hMm ?_, hY0.tr a6, a5.1.2.2.1⟩
      · refine bd_g (a := 0) (b := cp γ2 1 3 (nI p')) ?_ (ck_g (dec_t (Nat.le_refl _)) (if_f (by rw [cp_1, if_pos ⟨rfl, rfl⟩]; exact nI_m1 (by omega)) rfl))
        have hB := hT.2 p' hp
        unfold fc_X6_expectEnd
        exact bd_g (c_next n hT a3.1) (if_f (by rw [sg_is hp rfl]; exact nI_m1 (by omega)) (bd_g (c_fail n a3.1.2.2.1 _) (by rw [a3.1.2.2.2.1])))
      · have e10 := a10
        unfold Esu at e10
        rw [sg_is hp rfl] at e10
        have hb := rs_bad0 n hT a5 hp (fun ho => by
          rcases ho with h | h | h | h
          · exact e10.2.2.2.1 h
          · exact e10.2.2.2.2 h
          · exact e10.2.1 h
          · exact e10.2.2.1 h) (fun _ => rfl) k
        have h4 := a4 (k + 1)
        rw [← hk] at h4
        rw [h4]; exact hb
    · obtain ⟨μ3, s1, s2, s3⟩ := rs_done n (by omega) hT a5 hp a10.1 (by omega) (by omega)
      have hd := dp_len (T ++ ngs R) 0 (0 + 1) a9
      have hl : (T ++ ngs R).length = T.length + R.length := by rw [List.length_append, ngs_len]
      have hX : yTX γ γ2 := hX0.tr a2
      refine Or.inl ⟨T ++ ngs R, γ2, μ3, hC γ2 a1 a2 ?_, hX, a3.2.2, by omega, a9, hMm ?_, (hY0.tr a6).tr s3, s2.2.1.1, s2.2.1.2⟩
      · refine bd_g (a := 0) (b := γ2) ?_ (ck_g (dec_t (Nat.le_refl _)) (if_t a3.1.2.2.1 (bd_g (a := some γ.2.2.2.2.2) (b := lwN γ2 (T ++ ngs R).length) ?_ (ck_g (dec_t (Nat.le_succ _)) rfl))))
        · unfold fc_X6_expectEnd
          exact bd_g (c_next n hT a3.1) (if_t (sg_end hp) rfl)
        · rw [a3.2.1, ← TX_n hX]
          exact c_copy n (TX_w hX hw) (by rw [TX_n hX]; exact h34) (by omega)
      · have h4 := a4 (k + 1)
        rw [← hk] at h4
        rw [h4]; exact s1 k
  · obtain ⟨k, hk⟩ : ∃ k, n = k + j := ⟨n - j, by omega⟩
    refine Or.inr ⟨f, γ2, μ2, a4, hC γ2 a1 a2 ?_, hX0.tr a2, a3, hMm ?_, hY0.tr a7, a6⟩
    · refine bd_g (a := 0) (b := γ2) ?_ (ck_g (dec_t (Nat.le_refl _)) (if_f (by rw [a3]; exact nI_m1 (by omega)) rfl))
      unfold fc_X6_expectEnd
      exact bd_g (c_next_f n (by omega) a3) (if_t rfl rfl)
    · have h5 := a5 k
      rw [← hk] at h5
      exact h5
end
