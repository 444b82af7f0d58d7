section
/-! the steps of the reference's loop over a LAW's text -/
section
variable {μ : MS} {L : Nat} {B : Nat → Nat} {p t0 d : Nat} {T S : List Int32}
theorem lm_u (n k : Nat) (μ : MS) (w : Int32) : lm_readsLaw_30 n (k + 1) μ w = bm_readsLaw_30 n (lm_readsLaw_30 n k) μ w := rfl
/-- something is wanted, and the text is at its end -/
theorem rs_end1 (n : Nat) (hT : yTB L B) (H : LM μ L B p t0 T S d) (hp : ¬ p < L) (k : Nat) : lm_readsLaw_30 n (k + 1) μ 1 = some (0, μ) := by
  rw [lm_u]
  unfold bm_readsLaw_30
  have := H.1.1
  have := hT.1
  exact if_t (by rw [H.1.2.1, H.1.2.2.1]; exact nI_le (by omega) (by omega)) (if_f one_ne rfl)
theorem rs_in {n : Nat} (hT : yTB L B) (H : LM μ L B p t0 T S d) (hp : p < L) : ¬ μ.1 0 9 ≤ μ.1 0 10 := by
  have := hT.1
  rw [H.1.2.1, H.1.2.2.1]; exact nI_ge hp (by omega)
theorem isF_1 (n : Nat) (μ : MS) {b : Int32} (h : b = 108 ∨ b = 116 ∨ b = 119 ∨ b = 100 ∨ b = 101 ∨ b = 98 ∨ b = 102 ∨ b = 107) : fm_isField n μ b = some (1, μ) := by
  unfold fm_isField
  rcases h with rfl | rfl | rfl | rfl | rfl | rfl | rfl | rfl <;> rfl
theorem isF_0 (n : Nat) (μ : MS) {b : Int32} (h : ¬ (b = 108 ∨ b = 116 ∨ b = 119 ∨ b = 100 ∨ b = 101 ∨ b = 98 ∨ b = 102 ∨ b = 107)) : fm_isField n μ b = some (0, μ) := by
  unfold fm_isField
  exact if_f (fun e => h (by simp [e])) (if_f (fun e => h (by simp [e])) (if_f (fun e => h (by simp [e])) (if_f (fun e => h (by simp [e])) (if_f (fun e => h (by simp [e])) (if_f (fun e => h (by simp [e])) (if_f (fun e => h (by simp [e])) (if_f (fun e => h (by simp [e])) rfl)))))))
/-- a number -/
theorem rs_num (n : Nat) (hn : 10 ≤ n) (hT : yTB L B) (H : LM μ L B p t0 T S d) (hd : dgb L B p = true) (hb : t0 + T.length < 300) : ∃ μ1, (∀ k, lm_readsLaw_30 n (k + 1) μ 1 = lm_readsLaw_30 n k μ1 0) ∧ LM μ1 L B (ne L B p) t0 (T ++ [nI (nv L B p)]) S d ∧ LX t0 μ μ1 := by
  obtain ⟨μ1, r1, r2, r3⟩ := m_number n hn hT H.1 hd
  have hv := nv_in hd
  have hdd := dgb_t hd
  have e0 : (1000 : Int32) + nI (nv L B p) = nI (1000 + nv L B p) := nI_add 1000 _
  have e1 : tkc (1000 + nI (nv L B p)) (nI (nv L B p)) := by
    rw [e0]
    exact Or.inl ⟨nI_le (a := 1000) (by omega) (by omega), nI_lt (b := 2000) (by omega) (by omega), by
      have : nI (1000 + nv L B p) - 1000 = nI (1000 + nv L B p - 1000) := nI_sub (b := 1000) (by omega) (by omega)
      rw [this, show 1000 + nv L B p - 1000 = nv L B p by omega]⟩
  obtain ⟨μ2, s1, s2, s3⟩ := m_emit n (LM_MP H r2 r3) hb e1
  refine ⟨μ2, fun k => ?_, s2, (LX_MP r2).tr s3⟩
  rw [lm_u]
  unfold bm_readsLaw_30
  refine if_f (rs_in (n := n) hT H hdd.1) (if_f one_ne (bd_g (a := 1) (b := μ2) ?_ ?_))
  · unfold fm_wanted
    exact bd_g (m_sign n hT H.1) (bd_g (m_dig1 n hT H.1 hd) (if_f one_ne (bd_g r1 (bd_g s1 rfl))))
  · unfold bm_readsLaw_56
    exact if_t (by decide) (if_f one_ne (if_f one_ne rfl))
/-- a field -/
theorem rs_fld (n : Nat) (hT : yTB L B) (H : LM μ L B p t0 T S d) (hp : p < L) (hd : dgb L B p = false) {c : Int32} (hf : nI (B p) = 108 ∨ nI (B p) = 116 ∨ nI (B p) = 119 ∨ nI (B p) = 100 ∨ nI (B p) = 101 ∨ nI (B p) = 98 ∨ nI (B p) = 102 ∨ nI (B p) = 107) (hc : tkc (nI (B p)) c) (hb : t0 + T.length < 300) : ∃ μ1, (∀ k, lm_readsLaw_30 n (k + 1) μ 1 = lm_readsLaw_30 n k μ1 0) ∧ LM μ1 L B (p + 1) t0 (T ++ [c]) S d ∧ LX t0 μ μ1 := by
  obtain ⟨μ1, s1, s2, s3⟩ := m_emit n H hb hc
  refine ⟨mp μ1 0 10 (nI (p + 1)), fun k => ?_, LM_at s2 hp, s3.tr (LX_0 _ (by omega) _)⟩
  rw [lm_u]
  unfold bm_readsLaw_30
  refine if_f (rs_in (n := n) hT H hp) (if_f one_ne (bd_g (a := 1) (b := mp μ1 0 10 (nI (p + 1))) ?_ ?_))
  · unfold fm_wanted
    refine bd_g (m_sign n hT H.1) (bd_g (m_dig0 n hT H.1 hd) (if_t rfl (bd_g (a := 1) (b := μ) ?_ (if_f one_ne (bd_g (a := 0) (b := μ1) ?_ (sq_r (x1 := mp μ1 0 10 (nI (p + 1))) (by rw [s2.1.2.2.1, nI_1]) rfl))))))
    · rw [sg_is hp rfl]; exact isF_1 n μ hf
    · rw [sg_is hp rfl]; exact s1
  · unfold bm_readsLaw_56
    exact if_t (by decide) (if_f one_ne (if_f one_ne rfl))
/-- a bracket opens -/
theorem rs_open (n : Nat) (hT : yTB L B) (H : LM μ L B p t0 T S d) (hp : p < L) (hB : B p = 40) (h4 : d < 4) (hS : S.length < 24) : ∃ μ1, (∀ k, lm_readsLaw_30 n (k + 1) μ 1 = lm_readsLaw_30 n k μ1 1) ∧ LM μ1 L B (p + 1) t0 T (S ++ [40]) (d + 1) ∧ LX t0 μ μ1 := by
  have hd : dgb L B p = false := by
    rcases dgb_cs L B p with h | h
    · have := dgb_t h; omega
    · exact h
  have hns : fm_isField n μ (sg L B p) = some (0, μ) := by rw [sg_is hp hB]; exact isF_0 n μ (by decide)
  have H1 := LM_push H 40
  have H2 := LM_deep H1 (d + 1)
  have H3 := LM_at H2 hp
  refine ⟨_, fun k => ?_, H3, ((((LX_16 μ _ _).tr (LX_0 _ (by omega) _)).tr (LX_0 _ (by omega) _)).tr (LX_0 _ (by omega) _))⟩
  rw [lm_u]
  unfold bm_readsLaw_30
  refine if_f (rs_in (n := n) hT H hp) (if_f one_ne (bd_g (a := 0) (b := mp (mp (mp (mp μ 16 S.length 40) 0 23 (nI (S.length + 1))) 0 24 (nI (d + 1))) 0 10 (nI (p + 1))) ?_ ?_))
  · unfold fm_wanted
    refine bd_g (m_sign n hT H.1) (bd_g (m_dig0 n hT H.1 hd) (if_t rfl (bd_g hns (if_t rfl (if_t (sg_is hp hB) (if_f (by rw [H.2.2.2]; exact fun e => absurd ((nI_eq (b := 4) (by omega) (by omega)).mp e) (by omega)) (ck_g (by rw [H.2.2.1.1]; exact ib_nI (by omega) (by omega)) (sq_r (x1 := mp μ 16 S.length 40) (by rw [H.2.2.1.1, nI_clamp (by omega), sg_is hp hB]; rfl) (sq_r (x1 := mp (mp μ 16 S.length 40) 0 23 (nI (S.length + 1))) (by rw [mp_ne _ _ _ _ (by decide), H.2.2.1.1, nI_1]) (sq_r (x1 := mp (mp (mp μ 16 S.length 40) 0 23 (nI (S.length + 1))) 0 24 (nI (d + 1))) (by rw [H1.2.2.2, nI_1]) (sq_r (x1 := mp (mp (mp (mp μ 16 S.length 40) 0 23 (nI (S.length + 1))) 0 24 (nI (d + 1))) 0 10 (nI (p + 1))) (by rw [H2.1.2.2.1, nI_1]) rfl)))))))))))
  · unfold bm_readsLaw_56
    exact if_t (by decide) (if_f one_ne (if_t rfl rfl))
/-- what is wanted can't be -/
theorem rs_bad1 (n : Nat) (hT : yTB L B) (H : LM μ L B p t0 T S d) (hp : p < L) (hd : dgb L B p = false) (hf : ¬ (nI (B p) = 108 ∨ nI (B p) = 116 ∨ nI (B p) = 119 ∨ nI (B p) = 100 ∨ nI (B p) = 101 ∨ nI (B p) = 98 ∨ nI (B p) = 102 ∨ nI (B p) = 107)) (h4 : B p = 40 → d = 4) (k : Nat) : lm_readsLaw_30 n (k + 1) μ 1 = some (0, μ) := by
  have hB := hT.2 p hp
  rw [lm_u]
  unfold bm_readsLaw_30
  refine if_f (rs_in (n := n) hT H hp) (if_f one_ne (bd_g (a := -1) (b := μ) ?_ ?_))
  · unfold fm_wanted
    refine bd_g (m_sign n hT H.1) (bd_g (m_dig0 n hT H.1 hd) (if_t rfl (bd_g (a := 0) (b := μ) (by rw [sg_is hp rfl]; exact isF_0 n μ hf) (if_t rfl ?_))))
    by_cases h40 : B p = 40
    · exact if_t (sg_is hp h40) (if_t (by rw [H.2.2.2, h4 h40]; rfl) rfl)
    · exact if_f (by rw [sg_is hp rfl]; exact fun e => h40 ((nI_eq (b := 40) (by omega) (by omega)).mp e)) rfl
  · unfold bm_readsLaw_56
    exact if_f (by decide) rfl
/-- a sign behind -/
theorem rs_op (n : Nat) (hn : 30 ≤ n) (hT : yTB L B) {R : List Int32} (H : LM μ L B p t0 T (S ++ R.reverse) d) (hp : p < L) {s : Int32} (hs : nI (B p) = s) (ho : isop s) (hst : stp S (stn s)) (hR : ∀ x ∈ R, isop x ∧ stn s ≤ stn x) (hb : t0 + T.length + R.length < 300) (hS : S.length + R.length < 24) : ∃ μ1, (∀ k, lm_readsLaw_30 n (k + 1) μ 0 = lm_readsLaw_30 n k μ1 1) ∧ LM μ1 L B (p + 1) t0 (T ++ ngs R) (S ++ [s]) d ∧ LX t0 μ μ1 := by
  obtain ⟨μ1, r1, r2, r3⟩ := m_settle n hst (stn_le s) R n μ T (by omega) hR H hb (by omega)
  have H1 := LM_push r2 s
  have H2 := LM_at H1 hp
  have so := stn_op ho
  refine ⟨_, fun k => ?_, H2, ((r3.tr (LX_16 _ _ _)).tr (LX_0 _ (by omega) _)).tr (LX_0 _ (by omega) _)⟩
  rw [lm_u]
  unfold bm_readsLaw_30
  refine if_f (rs_in (n := n) hT H hp) (if_t rfl (bd_g (a := 1) (b := mp (mp (mp μ1 16 S.length s) 0 23 (nI (S.length + 1))) 0 10 (nI (p + 1))) ?_ ?_))
  · unfold fm_behind
    refine bd_g (m_sign n hT H.1) ?_
    rw [sg_is hp rfl, hs]
    refine if_f (op_41 ho) ?_
    unfold bm_behind_55
    refine bd_g (m_strength n μ s) (if_f (nI_ne0 (by omega) (by omega)) (bd_g (m_strength n μ s) (bd_g (a := 0) (b := μ1) r1 (ck_g (by rw [r2.2.2.1.1]; exact ib_nI (by omega) (by omega)) (sq_r (x1 := mp μ1 16 S.length s) (by rw [r2.2.2.1.1, nI_clamp (by omega)]) (sq_r (x1 := mp (mp μ1 16 S.length s) 0 23 (nI (S.length + 1))) (by rw [mp_ne _ _ _ _ (by decide), r2.2.2.1.1, nI_1]) (sq_r (x1 := mp (mp (mp μ1 16 S.length s) 0 23 (nI (S.length + 1))) 0 10 (nI (p + 1))) (by rw [H1.1.2.2.1, nI_1]) rfl)))))))
  · unfold bm_readsLaw_56
    exact if_t (by decide) (if_t rfl (if_t rfl rfl))
/-- a bracket closes -/
theorem rs_close (n : Nat) (hn : 30 ≤ n) (hT : yTB L B) {R : List Int32} (H : LM μ L B p t0 T (S ++ [40] ++ R.reverse) (d + 1)) (hp : p < L) (hB : B p = 41) (hd4 : d < 4) (hR : ∀ x ∈ R, isop x) (hb : t0 + T.length + R.length < 300) (hS : S.length + R.length < 23) : ∃ μ1, (∀ k, lm_readsLaw_30 n (k + 1) μ 0 = lm_readsLaw_30 n k μ1 0) ∧ LM μ1 L B (p + 1) t0 (T ++ ngs R) S d ∧ LX t0 μ μ1 := by
  have hl : (S ++ [(40 : Int32)]).length = S.length + 1 := by simp
  obtain ⟨μ1, r1, r2, r3⟩ := m_settle n (st := 0) (S := S ++ [40]) (Or.inr ⟨S, 40, rfl, Or.inl rfl⟩) (by omega) R n μ T (by omega) (fun x hx => ⟨hR x hx, Nat.zero_le _⟩) H hb (by rw [hl]; omega)
  have H1 := LM_pop r2
  have H2 := LM_deep H1 d
  have H3 := LM_at H2 hp
  refine ⟨_, fun k => ?_, H3, ((r3.tr (LX_0 _ (by omega) _)).tr (LX_0 _ (by omega) _)).tr (LX_0 _ (by omega) _)⟩
  rw [lm_u]
  unfold bm_readsLaw_30
  refine if_f (rs_in (n := n) hT H hp) (if_t rfl (bd_g (a := 0) (b := mp (mp (mp μ1 0 23 (nI S.length)) 0 24 (nI d)) 0 10 (nI (p + 1))) ?_ ?_))
  · unfold fm_behind
    refine bd_g (m_sign n hT H.1) (if_t (sg_is hp hB) (if_f (by rw [H.2.2.2]; exact nI_nle (by omega) (by omega)) (bd_g (a := 0) (b := μ1) r1 (sq_r (x1 := mp μ1 0 23 (nI S.length)) (by rw [r2.2.2.1.1, hl, nI_sub1]) (sq_r (x1 := mp (mp μ1 0 23 (nI S.length)) 0 24 (nI d)) (by rw [H1.2.2.2, nI_sub1]) (sq_r (x1 := mp (mp (mp μ1 0 23 (nI S.length)) 0 24 (nI d)) 0 10 (nI (p + 1))) (by rw [H2.1.2.2.1, nI_1]) rfl))))))
  · unfold bm_readsLaw_56
    exact if_t (by decide) (if_t rfl (if_f (by decide) rfl))
/-- nothing is wanted, the text is at its end within brackets -/
theorem rs_end0 (n : Nat) (hT : yTB L B) {S' : List Int32} (H : LM μ L B p t0 T S' d) (hp : ¬ p < L) (h0 : 0 < d) (h4 : d ≤ 4) (k : Nat) : lm_readsLaw_30 n (k + 1) μ 0 = some (0, μ) := by
  rw [lm_u]
  unfold bm_readsLaw_30
  have := H.1.1
  have := hT.1
  exact if_t (by rw [H.1.2.1, H.1.2.2.1]; exact nI_le (by omega) (by omega)) (if_t rfl (if_f (by rw [H.2.2.2]; exact nI_nle (by omega) (by omega)) rfl))
/-- no sign that can be -/
theorem rs_bad0 (n : Nat) (hT : yTB L B) {S' : List Int32} (H : LM μ L B p t0 T S' d) (hp : p < L) (ho : ¬ isop (nI (B p))) (h41 : B p = 41 → d = 0) (k : Nat) : lm_readsLaw_30 n (k + 1) μ 0 = some (0, μ) := by
  have hB := hT.2 p hp
  rw [lm_u]
  unfold bm_readsLaw_30
  have h55 : bm_behind_55 n μ (nI (B p)) = some (-1, μ) := by
    unfold bm_behind_55
    exact bd_g (m_strength n μ _) (if_t (by rw [stn_no ho]; rfl) rfl)
  refine if_f (rs_in (n := n) hT H hp) (if_t rfl (bd_g (a := -1) (b := μ) ?_ ?_))
  · unfold fm_behind
    refine bd_g (m_sign n hT H.1) ?_
    rw [sg_is hp rfl]
    by_cases e : B p = 41
    · exact if_t (by rw [e]; rfl) (if_t (by rw [H.2.2.2, h41 e]; decide) h55)
    · exact if_f (fun x => e ((nI_eq (b := 41) (by omega) (by omega)).mp x)) h55
  · unfold bm_readsLaw_56
    exact if_f (by decide) rfl
/-- the law is at its end -/
theorem rs_done (n : Nat) (hn : 30 ≤ n) (hT : yTB L B) {R : List Int32} (H : LM μ L B p t0 T R.reverse 0) (hp : ¬ p < L) (hR : ∀ x ∈ R, isop x) (hb : t0 + T.length + R.length < 300) (hS : R.length ≤ 24) : ∃ μ1, (∀ k, lm_readsLaw_30 n (k + 1) μ 0 = some (1, μ1)) ∧ LM μ1 L B p t0 (T ++ ngs R) [] 0 ∧ LX t0 μ μ1 := by
  obtain ⟨μ1, r1, r2, r3⟩ := m_settle n (st := 0) (S := []) (Or.inl rfl) (by omega) R n μ T (by omega) (fun x hx => ⟨hR x hx, Nat.zero_le _⟩) (by simpa using H) hb (by simpa using hS)
  refine ⟨μ1, fun k => ?_, r2, r3⟩
  rw [lm_u]
  unfold bm_readsLaw_30
  have := H.1.1
  have := hT.1
  exact if_t (by rw [H.1.2.1, H.1.2.2.1]; exact nI_le (by omega) (by omega)) (if_t rfl (if_t (by rw [H.2.2.2]; decide) (bd_g (a := 0) (b := μ1) r1 rfl)))
end
end
