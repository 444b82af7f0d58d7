/-! the reference's side of what a loss takes -/
theorem tn_nI {l d t : Nat} (hl : l ≤ 9000) (hd : d ≤ 99) (ht : t ≤ 9) : (9000 : Int32) / (nI l + 10) * (100 + nI t) / (10 + nI d / 10) = nI (TN l d t) := by
  have e1 : nI l + 10 = nI (l + 10) := nI_add l 10
  have e2 : (9000 : Int32) / nI (l + 10) = nI (9000 / (l + 10)) := nI_div (a := 9000) (by omega) (by omega)
  have e3 : (100 : Int32) + nI t = nI (100 + t) := nI_add 100 t
  have e4 : nI d / 10 = nI (d / 10) := nI_div (b := 10) (by omega) (by omega)
  have e5 : (10 : Int32) + nI (d / 10) = nI (10 + d / 10) := nI_add 10 (d / 10)
  have h1 : 9000 / (l + 10) ≤ 900 := by
    have : 9000 / (l + 10) ≤ 9000 / 10 := Nat.div_le_div_left (by omega) (by omega)
    omega
  have h2 : 9000 / (l + 10) * (100 + t) ≤ 900 * 109 := Nat.mul_le_mul h1 (by omega)
  have h3 : d / 10 ≤ 9 := by omega
  have e6 : nI (9000 / (l + 10)) * nI (100 + t) = nI (9000 / (l + 10) * (100 + t)) := nI_mul (by omega) (by omega) (by omega)
  have e7 : nI (9000 / (l + 10) * (100 + t)) / nI (10 + d / 10) = nI (9000 / (l + 10) * (100 + t) / (10 + d / 10)) := nI_div (by omega) (by omega)
  rw [e1, e2, e3, e4, e5, e6, e7]
  rfl
theorem mtone (n : Nat) (μ : MS) {p l d t : Nat} (hp : p < 7) (hl : l ≤ 9000) (hd : d ≤ 99) (ht : t ≤ 9) (hD : μ.1 4 p = nI d) (hT : μ.1 7 p = nI t) : fm_toneOf n μ (nI p) (nI l) = some (nI (TN l d t), μ) := by
  have e1 : nI l + 10 = nI (l + 10) := nI_add l 10
  have e4 : nI d / 10 = nI (d / 10) := nI_div (b := 10) (by omega) (by omega)
  have e5 : (10 : Int32) + nI (d / 10) = nI (10 + d / 10) := nI_add 10 (d / 10)
  have h3 : d / 10 ≤ 9 := by omega
  unfold fm_toneOf
  refine ck_g (dec_t (by rw [e1]; exact nI_ne0 (by omega) (by omega))) (ck_g (ib_nI hp (by omega)) (sq_r (x1 := nI t) (by rw [nI_clamp (by omega)]; exact hT) (ck_g (ib_nI hp (by omega)) (sq_r (x1 := nI d) (by rw [nI_clamp (by omega)]; exact hD) (ck_g (dec_t (by rw [e4, e5]; exact nI_ne0 (by omega) (by omega))) (sq_r (tn_nI hl hd ht) rfl))))))
theorem ctone (n : Nat) (γ : CS) {l d t : Nat} (hl : l ≤ 9000) (hd : d ≤ 99) (ht : t ≤ 9) : fc_X7_toneOf n γ (nI l) (nI d) (nI t) = some (nI (TN l d t), γ) := by
  have e1 : nI l + 10 = nI (l + 10) := nI_add l 10
  have e4 : nI d / 10 = nI (d / 10) := nI_div (b := 10) (by omega) (by omega)
  have e5 : (10 : Int32) + nI (d / 10) = nI (10 + d / 10) := nI_add 10 (d / 10)
  have h3 : d / 10 ≤ 9 := by omega
  have z1 : ¬ nI l + 10 ≤ 0 := by rw [e1]; exact nI_nle (by omega) (by omega)
  have z2 : 0 < 10 + nI d / 10 := by rw [e4, e5]; exact nI_lt (a := 0) (by omega) (by omega)
  have z3 : ¬ nI l + 10 = 0 := by rw [e1]; exact nI_ne0 (by omega) (by omega)
  have z4 : ¬ 10 + nI d / 10 = 0 := by rw [e4, e5]; exact nI_ne0 (by omega) (by omega)
  unfold fc_X7_toneOf
  refine sq_g (sq_g (if_f z1 (if_t z2 (ck_g (dec_t z3) (ck_g (dec_t z4) ?_)))))
  rw [tn_nI hl hd ht]
theorem takeOf_eq (n : Nat) (μ : MS) {i p f fr l d t : Nat} {cs : List Int32} (as bg en : Int32) (hn : 21 ≤ n) (hi : i < 8) (hp : p < 7) (hf : f < 4) (hl9 : l ≤ 9000) (hd99 : d ≤ 99) (ht9 : t ≤ 9) (hD : μ.1 4 p = nI d) (hT : μ.1 7 p = nI t) (hl : cs.length ≤ 19) (hdp : dp cs 0 = some 1) (h : LTr (live μ) i fr cs) (i25 : μ.1 0 25 = nI p) (i26 : μ.1 0 26 = nI l) (i27 : μ.1 0 27 = nI f) :
    ∃ g1 : Nat → Int32, fm_takeOf n μ (nI i) as bg en = some (tkv as bg en (μ.1 0 30) (if μ.1 6 p < 5 then 0 else 1) (nI (TN l d t)) (μ.1 0 26) (μ.1 5 p) (μ.1 8 f) (μ.1 0 29) (lw (fl μ p f (nI l) (nI (TN l d t))) cs), mpr μ 17 g1) := by
  obtain ⟨g1, hb0⟩ := lawOf_eq n μ (nI l) (nI (TN l d t)) hn hi hp hf hl hdp h
  have hb : fm_lawOf n μ (nI i) (μ.1 0 25) (μ.1 0 27) (μ.1 0 26) (nI (TN l d t)) = some (lw (fl μ p f (nI l) (nI (TN l d t))) cs, mpr μ 17 g1) := by rw [i25, i26, i27]; exact hb0
  have htn : fm_toneOf n μ (μ.1 0 25) (μ.1 0 26) = some (nI (TN l d t), μ) := by rw [i25, i26]; exact mtone n μ hp hl9 hd99 ht9 hD hT
  have stay : some ((0 : Int32), μ) = some (0, mpr μ 17 (μ.1 17)) := by rw [mpr_self]
  have ip : ib (μ.1 0 25) 7 = true := by rw [i25]; exact ib_nI hp (by omega)
  have jf : ib (nI f) 4 = true := ib_nI hf (by omega)
  have cp0 : Int32.toNatClampNeg (μ.1 0 25) = p := by rw [i25]; exact nI_clamp (by omega)
  have cf0 : Int32.toNatClampNeg (nI f) = f := nI_clamp (by omega)
  unfold fm_takeOf tkv
  by_cases k0 : as = 0
  · by_cases ha : μ.1 0 30 = 0
    · exact ⟨μ.1 17, bd_g htn (if_t k0 (if_t ha (by rw [if_pos k0, if_pos ha]; exact stay)))⟩
    · by_cases hr : μ.1 6 p < 5
      · exact ⟨g1, bd_g htn (if_t k0 (if_f ha (ck_g ip (sq_r (x1 := μ.1 6 p) (by rw [cp0]) (if_t hr (bd_g hb (by rw [if_pos k0, if_neg ha, if_pos hr, if_pos rfl])))))))⟩
      · exact ⟨g1, bd_g htn (if_t k0 (if_f ha (ck_g ip (sq_r (x1 := μ.1 6 p) (by rw [cp0]) (if_f hr (bd_g hb (by rw [if_pos k0, if_neg ha, if_neg hr, if_neg (by decide)])))))))⟩
  · by_cases k2 : as = 2
    · by_cases ht : nI (TN l d t) < 100
      · exact ⟨μ.1 17, bd_g htn (if_f k0 (if_t k2 (if_t ht (by rw [if_neg k0, if_pos k2, if_pos ht]; exact stay))))⟩
      · exact ⟨g1, bd_g htn (if_f k0 (if_t k2 (if_f ht (bd_g hb (by rw [if_neg k0, if_pos k2, if_neg ht])))))⟩
    · by_cases k3 : as = 3
      · by_cases hle : 10 * (9 - μ.1 5 p) ≤ μ.1 0 26
        · exact ⟨μ.1 17, bd_g htn (if_f k0 (if_f k2 (if_t k3 (ck_g ip (sq_r (x1 := μ.1 5 p) (by rw [cp0]) (if_t hle (by rw [if_neg k0, if_neg k2, if_pos k3, if_pos hle]; exact stay)))))))⟩
        · exact ⟨g1, bd_g htn (if_f k0 (if_f k2 (if_t k3 (ck_g ip (sq_r (x1 := μ.1 5 p) (by rw [cp0]) (if_f hle (bd_g hb (by rw [if_neg k0, if_neg k2, if_pos k3, if_neg hle]))))))))⟩
      · by_cases k4 : as = 4
        · refine ⟨g1, bd_g htn (if_f k0 (if_f k2 (if_f k3 (if_t k4 (bd_g hb (ck_g (by rw [mpr_ne _ _ _ (by decide), i27]; exact jf) (sq_r (x1 := μ.1 8 f) (by rw [mpr_ne _ _ _ (by decide), mpr_ne _ _ _ (by decide), i27, cf0]) (by rw [if_neg k0, if_neg k2, if_neg k3, if_pos k4]))))))))⟩
        · by_cases k6 : as = 6
          · by_cases t1 : μ.1 0 29 < bg
            · have ein : fm_isIn n μ (μ.1 0 29) bg en = some (0, μ) := by unfold fm_isIn; exact if_t t1 rfl
              exact ⟨μ.1 17, bd_g htn (if_f k0 (if_f k2 (if_f k3 (if_f k4 (if_t k6 (bd_g ein (if_t rfl (by rw [if_neg k0, if_neg k2, if_neg k3, if_neg k4, if_pos k6, if_pos t1]; exact stay))))))))⟩
            · by_cases t2 : en < μ.1 0 29
              · have ein : fm_isIn n μ (μ.1 0 29) bg en = some (0, μ) := by unfold fm_isIn; exact if_f t1 (if_t t2 rfl)
                exact ⟨μ.1 17, bd_g htn (if_f k0 (if_f k2 (if_f k3 (if_f k4 (if_t k6 (bd_g ein (if_t rfl (by rw [if_neg k0, if_neg k2, if_neg k3, if_neg k4, if_pos k6, if_neg t1, if_pos t2]; exact stay))))))))⟩
              · have ein : fm_isIn n μ (μ.1 0 29) bg en = some (1, μ) := by unfold fm_isIn; exact if_f t1 (if_f t2 rfl)
                exact ⟨g1, bd_g htn (if_f k0 (if_f k2 (if_f k3 (if_f k4 (if_t k6 (bd_g ein (if_f (by decide) (bd_g hb (by rw [if_neg k0, if_neg k2, if_neg k3, if_neg k4, if_pos k6, if_neg t1, if_neg t2])))))))))⟩
          · exact ⟨g1, bd_g htn (if_f k0 (if_f k2 (if_f k3 (if_f k4 (if_f k6 (bd_g hb (by rw [if_neg k0, if_neg k2, if_neg k3, if_neg k4, if_neg k6])))))))⟩
