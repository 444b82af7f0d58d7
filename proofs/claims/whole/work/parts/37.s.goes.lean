/-! a tick in the reference -/
def E18 (μ μ1 : MS) : Prop := μ1.2 = μ.2 ∧ (∀ a, a ≠ 0 → a ≠ 17 → a ≠ 18 → μ1.1 a = μ.1 a) ∧ ∀ k, k ≠ 34 → μ1.1 0 k = μ.1 0 k
theorem E18.rf (μ : MS) : E18 μ μ := ⟨rfl, fun _ _ _ _ => rfl, fun _ _ => rfl⟩
theorem E18_34 {μ μ1 : MS} (h : E18 μ μ1) (v : Int32) : E18 μ (mp μ1 0 34 v) := ⟨h.1, fun a h1 h2 h3 => by rw [mp_ne _ _ _ _ h1]; exact h.2.1 a h1 h2 h3, fun k hk => by rw [mp_1, if_neg (fun h => hk h.2)]; exact h.2.2 k hk⟩
theorem E18_18 {μ μ1 : MS} (h : E18 μ μ1) (k : Nat) (v : Int32) : E18 μ (mp μ1 18 k v) := ⟨h.1, fun a h1 h2 h3 => by rw [mp_ne _ _ _ _ h3]; exact h.2.1 a h1 h2 h3, fun j hj => by rw [mp_ne _ _ _ _ (by decide)]; exact h.2.2 j hj⟩
theorem E18_17 {μ μ1 : MS} (h : E18 μ μ1) (g : Nat → Int32) : E18 μ (mpr μ1 17 g) := ⟨h.1, fun a h1 h2 h3 => by rw [mpr_ne _ _ _ h2]; exact h.2.1 a h1 h2 h3, fun j hj => by rw [mpr_ne _ _ _ (by decide)]; exact h.2.2 j hj⟩
theorem E18_ME {μ μ1 : MS} (h : E18 μ μ1) : ME μ μ1 := ⟨h.1, h.2.1, fun k hk => h.2.2 k (by omega)⟩
/-- what the reference has at hand -/
def IN (μ : MS) (p f lean tick d t : Nat) : Prop := μ.1 0 25 = nI p ∧ μ.1 0 26 = nI lean ∧ μ.1 0 27 = nI f ∧ μ.1 0 29 = nI tick ∧ μ.1 4 p = nI d ∧ μ.1 7 p = nI t ∧ p < 6 ∧ f < 4
def tvM (μ : MS) (p f lean d t : Nat) (as bg en : Int32) (cs : List Int32) : Int32 := tkv as bg en (μ.1 0 30) (if μ.1 6 p < 5 then 0 else 1) (nI (TN lean d t)) (μ.1 0 26) (μ.1 5 p) (μ.1 8 f) (μ.1 0 29) (lw (fl μ p f (nI lean) (nI (TN lean d t))) cs)
theorem E18_IN {μ μ1 : MS} (h : E18 μ μ1) {p f lean tick d t : Nat} (hI : IN μ p f lean tick d t) : IN μ1 p f lean tick d t := by
  obtain ⟨h1, h2, h3, h4, h5, h6, h7⟩ := hI
  exact ⟨by rw [h.2.2 25 (by decide)]; exact h1, by rw [h.2.2 26 (by decide)]; exact h2, by rw [h.2.2 27 (by decide)]; exact h3, by rw [h.2.2 29 (by decide)]; exact h4, by rw [h.2.1 4 (by decide) (by decide) (by decide)]; exact h5, by rw [h.2.1 7 (by decide) (by decide) (by decide)]; exact h6, h7⟩
theorem fl_eq {μ μ1 : MS} (h3 : μ1.1 3 = μ.1 3) (h4 : μ1.1 4 = μ.1 4) (h5 : μ1.1 5 = μ.1 5) (h7 : μ1.1 7 = μ.1 7) (h8 : μ1.1 8 = μ.1 8) (h9 : μ1.1 9 = μ.1 9) (p f : Nat) (lean tone : Int32) : fl μ1 p f lean tone = fl μ p f lean tone := by
  funext k
  unfold fl
  rw [h3, h4, h5, h7, h8, h9]
theorem E18_tv {μ μ1 : MS} (h : E18 μ μ1) (p f lean d t : Nat) (as bg en : Int32) (cs : List Int32) : tvM μ1 p f lean d t as bg en cs = tvM μ p f lean d t as bg en cs := by
  unfold tvM
  rw [h.2.2 30 (by decide), h.2.2 26 (by decide), h.2.2 29 (by decide), h.2.1 6 (by decide) (by decide) (by decide), h.2.1 5 (by decide) (by decide) (by decide), h.2.1 8 (by decide) (by decide) (by decide), fl_eq (h.2.1 3 (by decide) (by decide) (by decide)) (h.2.1 4 (by decide) (by decide) (by decide)) (h.2.1 5 (by decide) (by decide) (by decide)) (h.2.1 7 (by decide) (by decide) (by decide)) (h.2.1 8 (by decide) (by decide) (by decide)) (h.2.1 9 (by decide) (by decide) (by decide))]
theorem E18_LT {μ μ1 : MS} (h : E18 μ μ1) {i fr : Nat} {cs : List Int32} (hL : LTr (live μ) i fr cs) : LTr (live μ1) i fr cs := by
  unfold LTr live at *
  rw [h.2.1 15 (by decide) (by decide) (by decide), h.2.1 14 (by decide) (by decide) (by decide)]
  exact hL
theorem take_at (n : Nat) {μ μ1 : MS} (h : E18 μ μ1) {p f lean tick d t i fr : Nat} {cs : List Int32} (as bg en : Int32) (hn : 21 ≤ n) (hi : i < 8) (hI : IN μ p f lean tick d t) (hl : lean ≤ 9000) (hd : d ≤ 99) (ht : t ≤ 9) (hcl : cs.length ≤ 19) (hdp : dp cs 0 = some 1) (hL : LTr (live μ) i fr cs) : ∃ g1, fm_takeOf n μ1 (nI i) as bg en = some (tvM μ p f lean d t as bg en cs, mpr μ1 17 g1) := by
  obtain ⟨i25, i26, i27, i29, hD, hT, hp, hf⟩ := E18_IN h hI
  obtain ⟨g1, e⟩ := takeOf_eq n μ1 as bg en hn hi (by omega) hf hl hd ht hD hT hcl hdp (E18_LT h hL) i25 i26 i27
  refine ⟨g1, e.trans ?_⟩
  rw [← E18_tv h]
  rfl
/-- how a loss stands in the reference at a tick -/
def stepM (μ : MS) (p f lean d t : Nat) (V kd : Nat → Nat) (i : Nat) : Prop := ∃ fr cs, LTr (live μ) i fr cs ∧ cs.length ≤ 19 ∧ dp cs 0 = some 1 ∧ μ.1 10 i = nI (kd i) ∧ kd i ≤ 6 ∧ ((bitI (μ.1 0 28) i = 0 ∧ V i = 0) ∨ (¬ bitI (μ.1 0 28) i = 0 ∧ tvM μ p f lean d t (μ.1 10 i) (μ.1 11 i) (μ.1 12 i) cs = nI (V i)))
def moreM (μ : MS) (p f lean d t nl X : Nat) : Prop := (μ.1 0 31 = -1 ∧ X = 0) ∨ ∃ i fr cs, i < nl ∧ μ.1 0 31 = nI i ∧ LTr (live μ) i fr cs ∧ cs.length ≤ 19 ∧ dp cs 0 = some 1 ∧ tvM μ p f lean d t 6 (μ.1 0 32) 9999 cs = nI X
/-- what is taken of what is left, in turn -/
def prt (V : Nat → Nat) (lean stp i : Nat) : Nat := min (V i * stp) (lean - sumV V i * stp)
def lpM (V kd : Nat → Nat) (lean stp : Nat) : Nat → Bool
  | 0 => false
  | i + 1 => lpM V kd lean stp i || (decide (kd i = 3) && decide (0 < prt V lean stp i))
theorem lft {V : Nat → Nat} {lean stp i : Nat} : lean - sumV V i * stp - prt V lean stp i = lean - sumV V (i + 1) * stp := by
  have e : sumV V (i + 1) * stp = sumV V i * stp + V i * stp := by simp only [sumV]; rw [Nat.add_mul]
  rw [e]
  unfold prt
  omega
theorem rec_part (n : Nat) (K : MS → Int32 → Int32 → Int32 → Option (Int32 × MS)) (μ : MS) {stp left v l : Nat} (x4 : Int32) (hv : v ≤ 9999) (hstp : stp ≤ 10) (hleft : left ≤ 9000) : bm_reckons_109 n K μ (nI stp) (nI left) (nI l) x4 (nI v) = bm_reckons_129 n K μ (nI stp) (nI left) (nI l) x4 (nI (min (v * stp) left)) := by
  have hm : v * stp ≤ 9999 * 10 := Nat.mul_le_mul hv hstp
  have em : nI v * nI stp = nI (v * stp) := nI_mul (by omega) (by omega) (by omega)
  unfold bm_reckons_109
  rw [sq_d, em]
  by_cases h : v * stp ≤ left
  · rw [if_pos (nI_le h (by omega)), Nat.min_eq_left h]
  · rw [if_neg (nI_ge (by omega) (by omega)), Nat.min_eq_right (by omega)]
theorem rec_loop (n : Nat) (μ : MS) {p f lean tick stp d t nl X : Nat} {V kd : Nat → Nat} (hn : 21 ≤ n) (hnl : nl ≤ 8) (h21 : μ.1 0 21 = nI nl) (hI : IN μ p f lean tick d t) (hst : ∀ i, i < nl → stepM μ p f lean d t V kd i) (hmo : moreM μ p f lean d t nl X) (hV : ∀ i, V i ≤ 9999) (hX : X ≤ 9999) (hl : lean ≤ 9000) (hstp : stp ≤ 10) (hd : d ≤ 99) (ht : t ≤ 9) :
    ∀ (m i k : Nat) (μi : MS), i + m = nl → m + 1 < k → E18 μ μi → μi.1 0 34 = fI (lpM V kd lean stp i) → (∀ j, j < i → μi.1 18 j = nI (prt V lean stp j)) → ∃ μ1, E18 μ μ1 ∧ μ1.1 0 34 = fI (lpM V kd lean stp nl) ∧ (∀ j, j < nl → μ1.1 18 j = nI (prt V lean stp j)) ∧ lm_reckons_12 n k μi (nI stp) (nI (lean - sumV V i * stp)) (nI i) = some (nI (lean - (lean - (sumV V nl + X) * stp)), μ1) := by
  intro m
  induction m with
  | zero =>
    intro i k μi him hk hE hlp hpt
    obtain rfl : i = nl := by omega
    obtain ⟨k, rfl⟩ : ∃ k', k = k' + 2 := ⟨k - 2, by omega⟩
    have i21 : μi.1 0 21 = nI i := by rw [hE.2.2 21 (by decide)]; exact h21
    have hib : ib (nI i) 9 = true := ib_nI (by omega) (by omega)
    have hci : Int32.toNatClampNeg (nI i) = i := nI_clamp (by omega)
    have hleft : lean - sumV V i * stp ≤ 9000 := by omega
    -- behind the last loss: what the one more takes
    have fin : ∀ μ2 : MS, E18 μ μ2 → μ2.1 0 34 = fI (lpM V kd lean stp i) → (∀ j, j < i → μ2.1 18 j = nI (prt V lean stp j)) → ∃ μ1, E18 μ μ1 ∧ μ1.1 0 34 = fI (lpM V kd lean stp i) ∧ (∀ j, j < i → μ1.1 18 j = nI (prt V lean stp j)) ∧ bm_reckons_129 n (lm_reckons_12 n (k + 1)) μ2 (nI stp) (nI (lean - sumV V i * stp)) (nI i) 1 (nI (min (X * stp) (lean - sumV V i * stp))) = some (nI (lean - (lean - (sumV V i + X) * stp)), μ1) := by
      intro μ2 hE2 hlp2 hpt2
      have hE3 := E18_18 hE2 (Int32.toNatClampNeg (nI i)) (nI (min (X * stp) (lean - sumV V i * stp)))
      have e34 : (mp μ2 18 (Int32.toNatClampNeg (nI i)) (nI (min (X * stp) (lean - sumV V i * stp)))).1 0 34 = fI (lpM V kd lean stp i) := by rw [mp_ne _ _ _ _ (by decide)]; exact hlp2
      have esub : nI (lean - sumV V i * stp) - nI (min (X * stp) (lean - sumV V i * stp)) = nI (lean - (sumV V i + X) * stp) := by
        rw [nI_sub (Nat.min_le_right _ _) (by omega)]
        congr 1
        rw [Nat.add_mul]
        omega
      have p3 : ∀ j, j < i → (mp μ2 18 (Int32.toNatClampNeg (nI i)) (nI (min (X * stp) (lean - sumV V i * stp)))).1 18 j = nI (prt V lean stp j) := fun j hj => by rw [mp_1, hci, if_neg (by omega)]; exact hpt2 j hj
      have out : ∀ (μ3 : MS), E18 μ μ3 → lm_reckons_12 n (k + 1) μ3 (nI stp) (nI (lean - (sumV V i + X) * stp)) (nI (i + 1)) = some (nI (lean - (lean - (sumV V i + X) * stp)), μ3) := by
        intro μ3 h3
        show bm_reckons_12 n (lm_reckons_12 n k) μ3 _ _ _ = _
        unfold bm_reckons_12
        refine if_t (by rw [h3.2.2 21 (by decide), h21]; exact nI_lt (by omega) (by omega)) ?_
        rw [h3.2.2 26 (by decide), hI.2.1, nI_sub (by omega) (by omega)]
      unfold bm_reckons_129 bm_reckons_172
      cases hb : lpM V kd lean stp i with
      | true =>
        rw [hb] at e34
        refine ⟨_, E18_34 hE3 1, by rw [mp_1, if_pos ⟨rfl, rfl⟩]; rfl, fun j hj => by rw [mp_ne _ _ _ _ (by decide)]; exact p3 j hj, ck_g hib (sq_g (sq_r esub (if_f (by rw [e34]; decide) (sq_g (sq_r (nI_1 i) (out _ (E18_34 hE3 1)))))))⟩
      | false =>
        rw [hb] at e34
        refine ⟨_, E18_34 hE3 0, by rw [mp_1, if_pos ⟨rfl, rfl⟩]; rfl, fun j hj => by rw [mp_ne _ _ _ _ (by decide)]; exact p3 j hj, ck_g hib (sq_g (sq_r esub (if_t (by rw [e34]; rfl) (if_f (by decide) (sq_g (sq_r (nI_1 i) (out _ (E18_34 hE3 0))))))))⟩
    show ∃ μ1, _ ∧ _ ∧ _ ∧ bm_reckons_12 n (lm_reckons_12 n (k + 1)) μi _ _ _ = _
    rcases hmo with ⟨h31, rfl⟩ | ⟨i2, fr, cs, hi2, h31, hL, hcl, hdp, hv⟩
    · obtain ⟨μ1, g1, g2, g3, g4⟩ := fin μi hE hlp hpt
      refine ⟨μ1, g1, g2, g3, ?_⟩
      unfold bm_reckons_12 bm_reckons_33
      refine if_f (by rw [i21]; exact fun h => absurd h (nI_nlt (Nat.le_refl _) (by omega))) (if_t i21.symm (if_f (by decide) (if_f (by rw [hE.2.2 31 (by decide), h31]; decide) ?_)))
      exact (rec_part n _ μi (v := 0) 1 (by omega) hstp hleft).trans g4
    · obtain ⟨g, et⟩ := take_at n hE 6 (μ.1 0 32) 9999 hn (by omega) hI hl hd ht hcl hdp hL
      obtain ⟨μ1, g1, g2, g3, g4⟩ := fin (mpr μi 17 g) (E18_17 hE g) (by rw [mpr_ne _ _ _ (by decide)]; exact hlp) (fun j hj => by rw [mpr_ne _ _ _ (by decide)]; exact hpt j hj)
      refine ⟨μ1, g1, g2, g3, ?_⟩
      unfold bm_reckons_12 bm_reckons_33
      have e31 : μi.1 0 31 = nI i2 := by rw [hE.2.2 31 (by decide)]; exact h31
      refine if_f (by rw [i21]; exact fun h => absurd h (nI_nlt (Nat.le_refl _) (by omega))) (if_t i21.symm (if_f (by decide) (if_t (by rw [e31]; exact nI_pos' (by omega)) (bd_g (a := nI X) (b := mpr μi 17 g) (by rw [e31, hE.2.2 32 (by decide), et, hv]) ?_))))
      exact (rec_part n _ _ (v := X) 1 hX hstp hleft).trans g4
  | succ m ih =>
    intro i k μi him hk hE hlp hpt
    obtain ⟨k, rfl⟩ : ∃ k', k = k' + 1 := ⟨k - 1, by omega⟩
    have i21 : μi.1 0 21 = nI nl := by rw [hE.2.2 21 (by decide)]; exact h21
    have hib : ib (nI i) 9 = true := ib_nI (by omega) (by omega)
    have hci : Int32.toNatClampNeg (nI i) = i := nI_clamp (by omega)
    have hleft : lean - sumV V i * stp ≤ 9000 := by omega
    obtain ⟨fr, cs, hL, hcl, hdp, hkd, hk6, hbit⟩ := hst i (by omega)
    have e10 : μi.1 10 = μ.1 10 := hE.2.1 10 (by decide) (by decide) (by decide)
    have e11 : μi.1 11 = μ.1 11 := hE.2.1 11 (by decide) (by decide) (by decide)
    have e12 : μi.1 12 = μ.1 12 := hE.2.1 12 (by decide) (by decide) (by decide)
    -- behind what it takes
    have fin : ∀ μ2 : MS, E18 μ μ2 → μ2.1 0 34 = fI (lpM V kd lean stp i) → (∀ j, j < i → μ2.1 18 j = nI (prt V lean stp j)) → ∃ μ1, E18 μ μ1 ∧ μ1.1 0 34 = fI (lpM V kd lean stp nl) ∧ (∀ j, j < nl → μ1.1 18 j = nI (prt V lean stp j)) ∧ bm_reckons_109 n (lm_reckons_12 n k) μ2 (nI stp) (nI (lean - sumV V i * stp)) (nI i) 0 (nI (V i)) = some (nI (lean - (lean - (sumV V nl + X) * stp)), μ1) := by
      intro μ2 hE2 hlp2 hpt2
      rw [rec_part n _ _ 0 (hV i) hstp hleft]
      have eprt : min (V i * stp) (lean - sumV V i * stp) = prt V lean stp i := rfl
      rw [eprt]
      have hE3 := E18_18 hE2 (Int32.toNatClampNeg (nI i)) (nI (prt V lean stp i))
      have e34 : (mp μ2 18 (Int32.toNatClampNeg (nI i)) (nI (prt V lean stp i))).1 0 34 = fI (lpM V kd lean stp i) := by rw [mp_ne _ _ _ _ (by decide)]; exact hlp2
      have hpl : prt V lean stp i ≤ lean - sumV V i * stp := Nat.min_le_right _ _
      have esub : nI (lean - sumV V i * stp) - nI (prt V lean stp i) = nI (lean - sumV V (i + 1) * stp) := by
        rw [nI_sub hpl (by omega), lft]
      have p3 : ∀ j, j < i + 1 → (mp μ2 18 (Int32.toNatClampNeg (nI i)) (nI (prt V lean stp i))).1 18 j = nI (prt V lean stp j) := fun j hj => by
        rw [mp_1, hci]
        by_cases e : j = i
        · rw [if_pos ⟨rfl, e⟩, e]
        · rw [if_neg (fun h => e h.2)]; exact hpt2 j (by omega)
      have k10 : (mp μ2 18 (Int32.toNatClampNeg (nI i)) (nI (prt V lean stp i))).1 10 (Int32.toNatClampNeg (nI i)) = nI (kd i) := by rw [hE3.2.1 10 (by decide) (by decide) (by decide), hci]; exact hkd
      have to : ∀ b : Bool, lpM V kd lean stp (i + 1) = b → ∃ μ1, E18 μ μ1 ∧ μ1.1 0 34 = fI (lpM V kd lean stp nl) ∧ (∀ j, j < nl → μ1.1 18 j = nI (prt V lean stp j)) ∧ lm_reckons_12 n k (mp (mp μ2 18 (Int32.toNatClampNeg (nI i)) (nI (prt V lean stp i))) 0 34 (fI b)) (nI stp) (nI (lean - sumV V (i + 1) * stp)) (nI (i + 1)) = some (nI (lean - (lean - (sumV V nl + X) * stp)), μ1) := by
        intro b hb
        exact ih (i + 1) k _ (by omega) (by omega) (E18_34 hE3 _) (by rw [mp_1, if_pos ⟨rfl, rfl⟩, hb]) (fun j hj => by rw [mp_ne _ _ _ _ (by decide)]; exact p3 j hj)
      unfold bm_reckons_129 bm_reckons_172
      cases hb : lpM V kd lean stp i with
      | true =>
        rw [hb] at e34
        obtain ⟨μ1, g1, g2, g3, g4⟩ := to true (by simp [lpM, hb])
        exact ⟨μ1, g1, g2, g3, ck_g hib (sq_g (sq_r esub (if_f (by rw [e34]; decide) (sq_g (sq_r (nI_1 i) g4)))))⟩
      | false =>
        rw [hb] at e34
        by_cases k3 : kd i = 3
        · by_cases hpos : 0 < prt V lean stp i
          · obtain ⟨μ1, g1, g2, g3, g4⟩ := to true (by simp [lpM, k3, hpos])
            exact ⟨μ1, g1, g2, g3, ck_g hib (sq_g (sq_r esub (if_t (by rw [e34]; rfl) (if_t rfl (ck_g hib (sq_r k10 (if_t (by rw [k3]; rfl) (if_f (nI_nle hpos (by omega)) (sq_g (sq_r (nI_1 i) g4))))))))))⟩
          · obtain ⟨μ1, g1, g2, g3, g4⟩ := to false (by simp [lpM, hb, hpos])
            exact ⟨μ1, g1, g2, g3, ck_g hib (sq_g (sq_r esub (if_t (by rw [e34]; rfl) (if_t rfl (ck_g hib (sq_r k10 (if_t (by rw [k3]; rfl) (if_t (by rw [show prt V lean stp i = 0 by omega]; exact Int32.le_refl 0) (sq_g (sq_r (nI_1 i) g4))))))))))⟩
        · obtain ⟨μ1, g1, g2, g3, g4⟩ := to false (by simp [lpM, hb, k3])
          exact ⟨μ1, g1, g2, g3, ck_g hib (sq_g (sq_r esub (if_t (by rw [e34]; rfl) (if_t rfl (ck_g hib (sq_r k10 (if_f (fun h => k3 ((nI_eq (b := 3) (by omega) (by omega)).mp h)) (sq_g (sq_r (nI_1 i) g4)))))))))⟩
    show ∃ μ1, _ ∧ _ ∧ _ ∧ bm_reckons_12 n (lm_reckons_12 n k) μi _ _ _ = _
    have n1 : ¬ μi.1 0 21 < nI i := by rw [i21]; exact nI_nlt (by omega) (by omega)
    have n2 : ¬ nI i = μi.1 0 21 := by rw [i21]; exact fun h => absurd ((nI_eq (by omega) (by omega)).mp h) (by omega)
    rcases hbit with ⟨hb0, hv0⟩ | ⟨hb1, htv⟩
    · obtain ⟨μ1, g1, g2, g3, g4⟩ := fin μi hE hlp hpt
      rw [hv0] at g4
      refine ⟨μ1, g1, g2, g3, ?_⟩
      unfold bm_reckons_12 bm_reckons_33
      exact if_f n1 (if_f n2 (if_t rfl (if_t (by rw [hE.2.2 28 (by decide)]; exact hb0) g4)))
    · obtain ⟨g, et⟩ := take_at n hE (μ.1 10 i) (μ.1 11 i) (μ.1 12 i) hn (by omega) hI hl hd ht hcl hdp hL
      rw [htv] at et
      obtain ⟨μ1, g1, g2, g3, g4⟩ := fin (mpr μi 17 g) (E18_17 hE g) (by rw [mpr_ne _ _ _ (by decide)]; exact hlp) (fun j hj => by rw [mpr_ne _ _ _ (by decide)]; exact hpt j hj)
      refine ⟨μ1, g1, g2, g3, ?_⟩
      unfold bm_reckons_12 bm_reckons_33
      refine if_f n1 (if_f n2 (if_t rfl (if_f (by rw [hE.2.2 28 (by decide)]; exact hb1) (ck_g hib (sq_r (x1 := μ.1 10 i) (by rw [e10, hci]) (ck_g hib (sq_r (x1 := μ.1 11 i) (by rw [e11, hci]) (ck_g hib (sq_r (x1 := μ.1 12 i) (by rw [e12, hci]) (bd_g et g4))))))))))
