section
/-! THE TEXT as both read it: signs, digits, numbers -/
def sg (L : Nat) (B : Nat → Nat) (p : Nat) : Int32 := if p < L then nI (B p) else -1
def dgb (L : Nat) (B : Nat → Nat) (p : Nat) : Bool := decide (p < L) && (decide (48 ≤ B p) && decide (B p ≤ 57))
def nmL (L : Nat) (B : Nat → Nat) : Nat → Nat → Nat → Nat × Nat
  | 0, p, v => (v, p)
  | m + 1, p, v => if v = 0 ∨ dgb L B p = false then (v, p) else nmL L B m (p + 1) (10 * v + (B p - 48))
def yTB (L : Nat) (B : Nat → Nat) : Prop := L ≤ 20 ∧ ∀ i, i < L → B i ≤ 255
def TC (γ : CS) (L : Nat) (B : Nat → Nat) (p : Nat) : Prop := p ≤ L ∧ γ.1 1 2 = nI L ∧ γ.1 1 3 = -1 ∧ γ.1 1 4 = nI p ∧ ∀ i, i < L → γ.1 2 i = nI (B i)
def TM (μ : MS) (L : Nat) (B : Nat → Nat) (p : Nat) : Prop := p ≤ L ∧ μ.1 0 9 = nI L ∧ μ.1 0 10 = nI p ∧ ∀ i, i < L → μ.1 2 i = nI (B i)
/-- only the place has changed -/
def TP (γ γ1 : CS) : Prop := γ1.2 = γ.2 ∧ (∀ a, a ≠ 1 → γ1.1 a = γ.1 a) ∧ ∀ k, k ≠ 4 → γ1.1 1 k = γ.1 1 k
def MP (μ μ1 : MS) : Prop := μ1.2 = μ.2 ∧ (∀ a, a ≠ 0 → μ1.1 a = μ.1 a) ∧ ∀ k, k ≠ 10 → μ1.1 0 k = μ.1 0 k
/-- what reading may change in the class -/
def yTX (γ γ1 : CS) : Prop := γ1.2 = γ.2 ∧ (∀ a, a ≠ 1 → a ≠ 3 → γ1.1 a = γ.1 a) ∧ γ1.1 1 2 = γ.1 1 2
theorem TP.rf (γ : CS) : TP γ γ := ⟨rfl, fun _ _ => rfl, fun _ _ => rfl⟩
theorem MP.rf (μ : MS) : MP μ μ := ⟨rfl, fun _ _ => rfl, fun _ _ => rfl⟩
theorem yTX.rf (γ : CS) : yTX γ γ := ⟨rfl, fun _ _ _ => rfl, rfl⟩
theorem TP.tr {a b c : CS} (h : TP a b) (g : TP b c) : TP a c := ⟨g.1.trans h.1, fun x hx => (g.2.1 x hx).trans (h.2.1 x hx), fun k hk => (g.2.2 k hk).trans (h.2.2 k hk)⟩
theorem MP.tr {a b c : MS} (h : MP a b) (g : MP b c) : MP a c := ⟨g.1.trans h.1, fun x hx => (g.2.1 x hx).trans (h.2.1 x hx), fun k hk => (g.2.2 k hk).trans (h.2.2 k hk)⟩
theorem yTX.tr {a b c : CS} (h : yTX a b) (g : yTX b c) : yTX a c := ⟨g.1.trans h.1, fun x hx hy => (g.2.1 x hx hy).trans (h.2.1 x hx hy), g.2.2.trans h.2.2⟩
theorem TX_TP {a b : CS} (h : TP a b) : yTX a b := ⟨h.1, fun x hx _ => h.2.1 x hx, h.2.2 2 (by decide)⟩
theorem TP_cp (γ : CS) (v : Int32) : TP γ (cp γ 1 4 v) := ⟨rfl, fun _ h => cp_ne _ _ _ _ h, fun k hk => by rw [cp_1, if_neg (by omega)]⟩
theorem MP_mp (μ : MS) (v : Int32) : MP μ (mp μ 0 10 v) := ⟨rfl, fun _ h => mp_ne _ _ _ _ h, fun k hk => by rw [mp_1, if_neg (by omega)]⟩
theorem TX_cp (γ : CS) {k : Nat} (hk : k ≠ 2) (v : Int32) : yTX γ (cp γ 1 k v) := ⟨rfl, fun _ h _ => cp_ne _ _ _ _ h, by rw [cp_1, if_neg (by omega)]⟩
theorem TX_c3 (γ : CS) (k : Nat) (v : Int32) : yTX γ (cp γ 3 k v) := ⟨rfl, fun _ _ h => cp_ne _ _ _ _ h, by rw [cp_ne _ _ _ _ (by decide)]⟩
theorem TC_at {γ : CS} {L : Nat} {B : Nat → Nat} {p : Nat} (T : TC γ L B p) {q : Nat} (hq : q ≤ L) : TC (cp γ 1 4 (nI q)) L B q := ⟨hq, by rw [cp_1, if_neg (by omega)]; exact T.2.1, by rw [cp_1, if_neg (by omega)]; exact T.2.2.1, by rw [cp_1, if_pos ⟨rfl, rfl⟩], by rw [cp_ne _ _ _ _ (by decide)]; exact T.2.2.2.2⟩
theorem TM_at {μ : MS} {L : Nat} {B : Nat → Nat} {p : Nat} (T : TM μ L B p) {q : Nat} (hq : q ≤ L) : TM (mp μ 0 10 (nI q)) L B q := ⟨hq, by rw [mp_1, if_neg (by omega)]; exact T.2.1, by rw [mp_1, if_pos ⟨rfl, rfl⟩], by rw [mp_ne _ _ _ _ (by decide)]; exact T.2.2.2⟩
theorem nI_m1 {f : Nat} (hf : f < 2 ^ 31) : ¬ nI f = -1 := fun h => by
  have := congrArg Int32.toInt h
  rw [nI_toInt hf] at this
  have e1 : (-1 : Int32).toInt = -1 := by decide
  omega
theorem sg_is {L : Nat} {B : Nat → Nat} {p c : Nat} (h1 : p < L) (h2 : B p = c) : sg L B p = nI c := by unfold sg; rw [if_pos h1, h2]
theorem sg_end {L : Nat} {B : Nat → Nat} {p : Nat} (h1 : ¬ p < L) : sg L B p = -1 := by unfold sg; rw [if_neg h1]
theorem sg_isnt {L : Nat} {B : Nat → Nat} {p c : Nat} (hT : yTB L B) (hc : c < 2 ^ 31) (h : ¬ (p < L ∧ B p = c)) : ¬ sg L B p = nI c := by
  unfold sg
  by_cases h1 : p < L
  · rw [if_pos h1]
    have := hT.2 p h1
    exact fun e => h ⟨h1, (nI_eq (by omega) hc).mp e⟩
  · rw [if_neg h1]
    exact fun e => nI_m1 hc e.symm
theorem dgb_t {L : Nat} {B : Nat → Nat} {p : Nat} (h : dgb L B p = true) : p < L ∧ 48 ≤ B p ∧ B p ≤ 57 := by
  simp only [dgb, Bool.and_eq_true, decide_eq_true_eq] at h
  exact h
theorem dgb_f {L : Nat} {B : Nat → Nat} {p : Nat} (h : dgb L B p = false) : ¬ (p < L ∧ 48 ≤ B p ∧ B p ≤ 57) := fun g => by
  have : dgb L B p = true := by simp only [dgb, Bool.and_eq_true, decide_eq_true_eq]; exact g
  rw [this] at h; cases h
section
variable {γ : CS} {μ : MS} {L : Nat} {B : Nat → Nat} {p : Nat}
theorem c_next (n : Nat) (hT : yTB L B) (T : TC γ L B p) : fc_X6_next n γ = some (sg L B p, γ) := by
  obtain ⟨hp, t1, t2, t3, t4⟩ := T
  have hL := hT.1
  unfold fc_X6_next
  refine if_t t2 (if_f (by rw [t3]; exact nI_pos (by omega)) ?_)
  by_cases h : p < L
  · refine if_f (by rw [t1, t3]; exact nI_ge h (by omega)) (if_f (by rw [t3]; exact nI_ge (b := 20) (by omega) (by omega)) ?_)
    unfold bc_X6_next_43
    exact if_f one_ne (ck_g (by rw [t3]; exact ib_nI (by omega) (by omega)) (sq_r (x1 := sg L B p) (by rw [t3, nI_clamp (by omega), t4 p h, sg_is h rfl]) rfl))
  · rw [sg_end h]
    exact if_t (by rw [t1, t3]; exact nI_le (by omega) (by omega)) rfl
theorem c_next_f (n : Nat) {f : Nat} (hf : f < 2 ^ 31) (h : γ.1 1 3 = nI f) : fc_X6_next n γ = some (-1, γ) := by
  unfold fc_X6_next
  exact if_f (by rw [h]; exact nI_m1 hf) rfl
theorem m_sign (n : Nat) (hT : yTB L B) (T : TM μ L B p) : fm_sign n μ = some (sg L B p, μ) := by
  obtain ⟨hp, t1, t2, t3⟩ := T
  have hL := hT.1
  unfold fm_sign
  by_cases h : p < L
  · exact if_f (by rw [t1, t2]; exact nI_ge h (by omega)) (ck_g (by rw [t2]; exact ib_nI (by omega) (by omega)) (sq_r (x1 := sg L B p) (by rw [t2, nI_clamp (by omega), t3 p h, sg_is h rfl]) rfl))
  · rw [sg_end h]
    exact if_t (by rw [t1, t2]; exact nI_le (by omega) (by omega)) rfl
theorem c_dig1 (n : Nat) (hT : yTB L B) (T : TC γ L B p) (h : dgb L B p = true) : fc_X6_isAtDigit n γ = some (1, γ) := by
  obtain ⟨h1, h2, h3⟩ := dgb_t h
  unfold fc_X6_isAtDigit
  exact bd_g (c_next n hT T) (if_f (by rw [sg_is h1 rfl]; exact nI_nlt (b := 48) h2 (by omega)) (bd_g (c_next n hT T) (if_f (by rw [sg_is h1 rfl]; exact nI_nlt (a := 57) h3 (by omega)) rfl)))
theorem c_dig0 (n : Nat) (hT : yTB L B) (T : TC γ L B p) (h : dgb L B p = false) : fc_X6_isAtDigit n γ = some (0, γ) := by
  have h0 := dgb_f h
  unfold fc_X6_isAtDigit
  by_cases h1 : p < L
  · have := hT.2 p h1
    by_cases h2 : 48 ≤ B p
    · exact bd_g (c_next n hT T) (if_f (by rw [sg_is h1 rfl]; exact nI_nlt (b := 48) h2 (by omega)) (bd_g (c_next n hT T) (if_t (by rw [sg_is h1 rfl]; exact nI_lt (a := 57) (by omega) (by omega)) rfl)))
    · exact bd_g (c_next n hT T) (if_t (by rw [sg_is h1 rfl]; exact nI_lt (b := 48) (by omega) (by omega)) rfl)
  · exact bd_g (c_next n hT T) (if_t (by rw [sg_end h1]; decide) rfl)
theorem c_dig_f (n : Nat) {f : Nat} (hf : f < 2 ^ 31) (h : γ.1 1 3 = nI f) : fc_X6_isAtDigit n γ = some (0, γ) := by
  unfold fc_X6_isAtDigit
  exact bd_g (c_next_f n hf h) (if_t (by decide) rfl)
theorem m_dig1 (n : Nat) (hT : yTB L B) (T : TM μ L B p) (h : dgb L B p = true) : fm_isDigit n μ = some (1, μ) := by
  obtain ⟨h1, h2, h3⟩ := dgb_t h
  unfold fm_isDigit
  exact bd_g (m_sign n hT T) (bd_g (a := 1) (b := μ) (if_f (by rw [sg_is h1 rfl]; exact nI_nlt (b := 48) h2 (by omega)) (if_f (by rw [sg_is h1 rfl]; exact nI_nlt (a := 57) h3 (by omega)) rfl)) (ck_g (by decide) rfl))
theorem m_dig0 (n : Nat) (hT : yTB L B) (T : TM μ L B p) (h : dgb L B p = false) : fm_isDigit n μ = some (0, μ) := by
  have h0 := dgb_f h
  unfold fm_isDigit
  by_cases h1 : p < L
  · have := hT.2 p h1
    by_cases h2 : 48 ≤ B p
    · exact bd_g (m_sign n hT T) (bd_g (a := 0) (b := μ) (if_f (by rw [sg_is h1 rfl]; exact nI_nlt (b := 48) h2 (by omega)) (if_t (by rw [sg_is h1 rfl]; exact nI_lt (a := 57) (by omega) (by omega)) rfl)) (ck_g (by decide) rfl))
    · exact bd_g (m_sign n hT T) (bd_g (a := 0) (b := μ) (if_t (by rw [sg_is h1 rfl]; exact nI_lt (b := 48) (by omega) (by omega)) rfl) (ck_g (by decide) rfl))
  · exact bd_g (m_sign n hT T) (bd_g (a := 0) (b := μ) (if_t (by rw [sg_end h1]; decide) rfl) (ck_g (by decide) rfl))
theorem c_fail (n : Nat) (h : γ.1 1 3 = -1) (x : Int32) : fc_X6_failAt n γ x = some (0, cp γ 1 3 x) := by
  unfold fc_X6_failAt
  exact if_t h rfl
theorem c_fail_f (n : Nat) {f : Nat} (hf : f < 2 ^ 31) (h : γ.1 1 3 = nI f) (x : Int32) : fc_X6_failAt n γ x = some (0, γ) := by
  unfold fc_X6_failAt
  exact if_f (by rw [h]; exact nI_m1 hf) rfl
end
/-! numbers -/
theorem nmL_in {L : Nat} {B : Nat → Nat} : ∀ (m p v : Nat), p ≤ L → p ≤ (nmL L B m p v).2 ∧ (nmL L B m p v).2 ≤ L := by
  intro m
  induction m with
  | zero => exact fun p v h => ⟨Nat.le_refl _, h⟩
  | succ m ih =>
    intro p v h
    unfold nmL
    by_cases c : v = 0 ∨ dgb L B p = false
    · rw [if_pos c]; exact ⟨Nat.le_refl _, h⟩
    · rw [if_neg c]
      have hd : dgb L B p = true := by
        cases e : dgb L B p with
        | true => rfl
        | false => exact absurd (Or.inr e) c
      have := ih (p + 1) (10 * v + (B p - 48)) (dgb_t hd).1
      omega
theorem nmL_lt {L : Nat} {B : Nat → Nat} : ∀ (m p v : Nat), (v + 1) * 10 ^ m ≤ 1000 → (nmL L B m p v).1 + 1 ≤ 1000 := by
  intro m
  induction m with
  | zero => intro p v h; simpa [nmL] using h
  | succ m ih =>
    intro p v h
    unfold nmL
    by_cases c : v = 0 ∨ dgb L B p = false
    · rw [if_pos c]
      have h1 : (v + 1) * 1 ≤ (v + 1) * 10 ^ (m + 1) := Nat.mul_le_mul_left _ (Nat.one_le_pow _ _ (by omega))
      show v + 1 ≤ 1000
      omega
    · rw [if_neg c]
      have hd : dgb L B p = true := by
        cases e : dgb L B p with
        | true => rfl
        | false => exact absurd (Or.inr e) c
      have hb := dgb_t hd
      refine ih (p + 1) _ (Nat.le_trans (Nat.mul_le_mul_right _ (show 10 * v + (B p - 48) + 1 ≤ (v + 1) * 10 by omega)) ?_)
      rw [Nat.mul_assoc, ← Nat.pow_succ']
      exact h
theorem dig_val {v b : Nat} (hv : v < 1000) (h1 : 48 ≤ b) (h2 : b ≤ 57) : nI v * 10 + nI b - 48 = nI (10 * v + (b - 48)) := by
  have e1 : nI v * 10 = nI (v * 10) := nI_mul (b := 10) (by omega) (by omega) (by omega)
  rw [e1, nI_add]
  have e2 : nI (v * 10 + b) - 48 = nI (v * 10 + b - 48) := nI_sub (b := 48) (by omega) (by omega)
  rw [e2]
  congr 1
  omega
theorem dig_val' {v b : Nat} (hv : v < 1000) (h1 : 48 ≤ b) (h2 : b ≤ 57) : 10 * nI v + nI b - 48 = nI (10 * v + (b - 48)) := by
  have e1 : 10 * nI v = nI (10 * v) := nI_mul (a := 10) (by omega) (by omega) (by omega)
  rw [e1, nI_add]
  have e2 : nI (10 * v + b) - 48 = nI (10 * v + b - 48) := nI_sub (b := 48) (by omega) (by omega)
  rw [e2]
  congr 1
  omega
theorem dgb_cs (L : Nat) (B : Nat → Nat) (p : Nat) : dgb L B p = true ∨ dgb L B p = false := by cases dgb L B p <;> simp
theorem nmL_stop {L : Nat} {B : Nat → Nat} (m : Nat) {p v : Nat} (h : v = 0 ∨ dgb L B p = false) : nmL L B (m + 1) p v = (v, p) := if_pos h
theorem nmL_go {L : Nat} {B : Nat → Nat} (m : Nat) {p v : Nat} (h0 : ¬ v = 0) (hd : dgb L B p = true) : nmL L B (m + 1) p v = nmL L B m (p + 1) (10 * v + (B p - 48)) := if_neg (by rw [hd]; simp [h0])
theorem c_num_loop (n : Nat) {L : Nat} {B : Nat → Nat} (hT : yTB L B) (a b f : Int32) : ∀ (m j k : Nat) (γ : CS) (p v : Nat), j + m = 3 → 1 ≤ j → m < k → (v + 1) * 10 ^ m ≤ 1000 → TC γ L B p → ∃ γ1 j', lc_X6_readNumber_11 n k γ a b f (nI v) (nI j) = bc_X6_readNumber_65 n γ1 a b f (nI (nmL L B m p v).1) (nI j') ∧ (1 ≤ j' ∧ j' ≤ 3) ∧ TP γ γ1 ∧ TC γ1 L B (nmL L B m p v).2 := by
  intro m
  induction m with
  | zero =>
    intro j k γ p v hj h1 hk hv T
    obtain ⟨k, rfl⟩ : ∃ k', k = k' + 1 := ⟨k - 1, by omega⟩
    obtain rfl : j = 3 := by omega
    refine ⟨γ, 3, ?_, by omega, TP.rf γ, T⟩
    show bc_X6_readNumber_11 n (lc_X6_readNumber_11 n k) γ a b f (nI v) (nI 3) = _
    unfold bc_X6_readNumber_11
    exact if_t (nI_le (a := 3) (b := 3) (by omega) (by omega)) rfl
  | succ m ih =>
    intro j k γ p v hj h1 hk hv T
    obtain ⟨k, rfl⟩ : ∃ k', k = k' + 1 := ⟨k - 1, by omega⟩
    have n3 : ¬ (3 : Int32) ≤ nI j := nI_ge (b := 3) (by omega) (by omega)
    have hL := hT.1
    have hv1 : v + 1 ≤ 1000 := Nat.le_trans (by
      have : (v + 1) * 1 ≤ (v + 1) * 10 ^ (m + 1) := Nat.mul_le_mul_left _ (Nat.one_le_pow _ _ (by omega))
      omega) hv
    have e0 : lc_X6_readNumber_11 n (k + 1) γ a b f (nI v) (nI j) = bc_X6_readNumber_11 n (lc_X6_readNumber_11 n k) γ a b f (nI v) (nI j) := rfl
    rw [e0]
    unfold bc_X6_readNumber_11
    rcases dgb_cs L B p with hd | hd
    · by_cases hv0 : v = 0
      · subst hv0
        rw [nmL_stop m (Or.inl rfl)]
        exact ⟨γ, j, if_f n3 (bd_g (c_dig1 n hT T hd) (if_f one_ne (if_f (nI_ne0 (by omega) (by omega)) (if_t (by decide) rfl)))), by omega, TP.rf γ, T⟩
      · rw [nmL_go m hv0 hd]
        obtain ⟨d1, d2, d3⟩ := dgb_t hd
        obtain ⟨γ1, j', r1, r2, r3, r4⟩ := ih (j + 1) k (cp γ 1 4 (nI (p + 1))) (p + 1) (10 * v + (B p - 48)) (by omega) (by omega) (by omega) (Nat.le_trans (Nat.mul_le_mul_right _ (show 10 * v + (B p - 48) + 1 ≤ (v + 1) * 10 by omega)) (by rw [Nat.mul_assoc, ← Nat.pow_succ']; exact hv)) (TC_at T d1)
        refine ⟨γ1, j', if_f n3 (bd_g (c_dig1 n hT T hd) (if_f one_ne (if_f (nI_ne0 (by omega) (by omega)) (if_f (nI_nle (by omega) (by omega)) ?_)))), r2, (TP_cp γ _).tr r3, r4⟩
        unfold bc_X6_readNumber_34
        exact bd_g (c_next n hT T) (sq_r (x1 := nI (10 * v + (B p - 48))) (by rw [sg_is d1 rfl]; exact dig_val (by omega) d2 d3) (sq_r (x1 := cp γ 1 4 (nI (p + 1))) (by rw [T.2.2.2.1, nI_1]) (sq_r (nI_1 j) r1)))
    · rw [nmL_stop m (Or.inr hd)]
      exact ⟨γ, j, if_f n3 (bd_g (c_dig0 n hT T hd) (if_t rfl rfl)), by omega, TP.rf γ, T⟩
theorem m_num_loop (n : Nat) {L : Nat} {B : Nat → Nat} (hT : yTB L B) : ∀ (m j k : Nat) (μ : MS) (p v : Nat), j + m = 3 → 1 ≤ j → m < k → (v + 1) * 10 ^ m ≤ 1000 → TM μ L B p → ∃ μ1, lm_number_29 n k μ (nI v) (nI j) = some (nI (nmL L B m p v).1, μ1) ∧ MP μ μ1 ∧ TM μ1 L B (nmL L B m p v).2 := by
  intro m
  induction m with
  | zero =>
    intro j k μ p v hj h1 hk hv T
    obtain ⟨k, rfl⟩ : ∃ k', k = k' + 1 := ⟨k - 1, by omega⟩
    obtain rfl : j = 3 := by omega
    refine ⟨μ, ?_, MP.rf μ, T⟩
    show bm_number_29 n (lm_number_29 n k) μ (nI v) (nI 3) = _
    unfold bm_number_29
    exact if_t (nI_le (a := 3) (b := 3) (by omega) (by omega)) rfl
  | succ m ih =>
    intro j k μ p v hj h1 hk hv T
    obtain ⟨k, rfl⟩ : ∃ k', k = k' + 1 := ⟨k - 1, by omega⟩
    have n3 : ¬ (3 : Int32) ≤ nI j := nI_ge (b := 3) (by omega) (by omega)
    have hL := hT.1
    have hv1 : v + 1 ≤ 1000 := Nat.le_trans (by
      have : (v + 1) * 1 ≤ (v + 1) * 10 ^ (m + 1) := Nat.mul_le_mul_left _ (Nat.one_le_pow _ _ (by omega))
      omega) hv
    have e0 : lm_number_29 n (k + 1) μ (nI v) (nI j) = bm_number_29 n (lm_number_29 n k) μ (nI v) (nI j) := rfl
    rw [e0]
    unfold bm_number_29
    by_cases hv0 : v = 0
    · subst hv0
      rw [nmL_stop m (Or.inl rfl)]
      exact ⟨μ, if_f n3 (if_t (by decide) rfl), MP.rf μ, T⟩
    · rcases dgb_cs L B p with hd | hd
      · rw [nmL_go m hv0 hd]
        obtain ⟨d1, d2, d3⟩ := dgb_t hd
        obtain ⟨μ1, r1, r3, r4⟩ := ih (j + 1) k (mp μ 0 10 (nI (p + 1))) (p + 1) (10 * v + (B p - 48)) (by omega) (by omega) (by omega) (Nat.le_trans (Nat.mul_le_mul_right _ (show 10 * v + (B p - 48) + 1 ≤ (v + 1) * 10 by omega)) (by rw [Nat.mul_assoc, ← Nat.pow_succ']; exact hv)) (TM_at T d1)
        exact ⟨μ1, if_f n3 (if_f (nI_nle (by omega) (by omega)) (bd_g (m_dig1 n hT T hd) (if_f one_ne (bd_g (m_sign n hT T) (sq_r (x1 := nI (10 * v + (B p - 48))) (by rw [sg_is d1 rfl]; exact dig_val' (by omega) d2 d3) (sq_r (x1 := mp μ 0 10 (nI (p + 1))) (by rw [T.2.2.1, nI_1]) (sq_r (nI_1 j) r1))))))), (MP_mp μ _).tr r3, r4⟩
      · rw [nmL_stop m (Or.inr hd)]
        exact ⟨μ, if_f n3 (if_f (nI_nle (by omega) (by omega)) (bd_g (m_dig0 n hT T hd) (if_t rfl rfl))), MP.rf μ, T⟩
/-- the number at p: its value, the place behind it -/
def nv (L : Nat) (B : Nat → Nat) (p : Nat) : Nat := (nmL L B 2 (p + 1) (B p - 48)).1
def ne (L : Nat) (B : Nat → Nat) (p : Nat) : Nat := (nmL L B 2 (p + 1) (B p - 48)).2
theorem nv_in {L : Nat} {B : Nat → Nat} {p : Nat} (h : dgb L B p = true) : nv L B p ≤ 999 ∧ p < ne L B p ∧ ne L B p ≤ L := by
  obtain ⟨d1, d2, d3⟩ := dgb_t h
  have h1 := nmL_in (L := L) (B := B) 2 (p + 1) (B p - 48) d1
  have h2 := nmL_lt (L := L) (B := B) 2 (p + 1) (B p - 48) (by omega)
  unfold nv ne
  omega
section
variable {γ : CS} {μ : MS} {L : Nat} {B : Nat → Nat} {p : Nat}
theorem c_number (n : Nat) (hn : 10 ≤ n) (hT : yTB L B) (T : TC γ L B p) (hd : dgb L B p = true) (a b : Int32) : ∃ γ1 j', fc_X6_readNumber n γ a b = bc_X6_readNumber_65 n γ1 a b (nI p) (nI (nv L B p)) (nI j') ∧ (1 ≤ j' ∧ j' ≤ 3) ∧ TP γ γ1 ∧ TC γ1 L B (ne L B p) := by
  obtain ⟨d1, d2, d3⟩ := dgb_t hd
  obtain ⟨n, rfl⟩ : ∃ n', n = n' + 1 := ⟨n - 1, by omega⟩
  obtain ⟨γ1, j', r1, r2, r3, r4⟩ := c_num_loop (n + 1) hT a b (nI p) 2 1 n (cp γ 1 4 (nI (p + 1))) (p + 1) (B p - 48) (by omega) (by omega) (by omega) (by omega) (TC_at T d1)
  refine ⟨γ1, j', ?_, r2, (TP_cp γ _).tr r3, r4⟩
  unfold fc_X6_readNumber
  refine sq_r (x1 := nI p) T.2.2.2.1 (sq_g (sq_g ?_))
  show bc_X6_readNumber_11 (n + 1) (lc_X6_readNumber_11 (n + 1) n) γ a b (nI p) 0 0 = _
  unfold bc_X6_readNumber_11
  refine if_f (by decide) (bd_g (c_dig1 _ hT T hd) (if_f one_ne (if_t rfl ?_)))
  unfold bc_X6_readNumber_34
  exact bd_g (c_next _ hT T) (sq_r (x1 := nI (B p - 48)) (by
    rw [sg_is d1 rfl]
    have := dig_val (v := 0) (by omega) d2 d3
    rw [show 10 * 0 + (B p - 48) = B p - 48 by omega] at this
    exact this) (sq_r (x1 := cp γ 1 4 (nI (p + 1))) (by rw [T.2.2.2.1, nI_1]) (sq_g r1)))
theorem c_number0 (n : Nat) (hn : 10 ≤ n) (hT : yTB L B) (T : TC γ L B p) (hd : dgb L B p = false) (a b : Int32) : fc_X6_readNumber n γ a b = some (0, cp γ 1 3 (nI p)) := by
  obtain ⟨n, rfl⟩ : ∃ n', n = n' + 1 := ⟨n - 1, by omega⟩
  unfold fc_X6_readNumber
  refine sq_r (x1 := nI p) T.2.2.2.1 (sq_g (sq_g ?_))
  show bc_X6_readNumber_11 (n + 1) (lc_X6_readNumber_11 (n + 1) n) γ a b (nI p) 0 0 = _
  unfold bc_X6_readNumber_11
  refine if_f (by decide) (bd_g (c_dig0 _ hT T hd) (if_t rfl ?_))
  unfold bc_X6_readNumber_65
  refine if_t rfl ?_
  unfold bc_X6_readNumber_82
  exact bd_g (c_fail _ T.2.2.1 _) rfl
theorem c_number_f (n : Nat) (hn : 10 ≤ n) {f : Nat} (hf : f < 2 ^ 31) (h : γ.1 1 3 = nI f) (a b : Int32) : fc_X6_readNumber n γ a b = some (0, γ) := by
  obtain ⟨n, rfl⟩ : ∃ n', n = n' + 1 := ⟨n - 1, by omega⟩
  unfold fc_X6_readNumber
  refine sq_g (sq_g (sq_g ?_))
  show bc_X6_readNumber_11 (n + 1) (lc_X6_readNumber_11 (n + 1) n) γ a b (γ.1 1 4) 0 0 = _
  unfold bc_X6_readNumber_11
  refine if_f (by decide) (bd_g (c_dig_f _ hf h) (if_t rfl ?_))
  unfold bc_X6_readNumber_65
  refine if_t rfl ?_
  unfold bc_X6_readNumber_82
  exact bd_g (c_fail_f _ hf h _) rfl
theorem c_65_in (n : Nat) {a b v j : Nat} (f : Int32) (ha : a ≤ v) (hb : v ≤ b) (hb1 : b < 2 ^ 31) (hj : 1 ≤ j ∧ j ≤ 3) : bc_X6_readNumber_65 n γ (nI a) (nI b) f (nI v) (nI j) = some (nI v, γ) := by
  unfold bc_X6_readNumber_65
  exact if_f (nI_ne0 (by omega) (by omega)) (if_f (nI_nlt ha (by omega)) (if_t (nI_le hb hb1) rfl))
theorem c_65_out (n : Nat) {a b v j : Nat} (f : Int32) (h : ¬ (a ≤ v ∧ v ≤ b)) (hv : v < 2 ^ 31) (ha : a < 2 ^ 31) (hb1 : b < 2 ^ 31) (hj : 1 ≤ j ∧ j ≤ 3) (h3 : γ.1 1 3 = -1) : bc_X6_readNumber_65 n γ (nI a) (nI b) f (nI v) (nI j) = some (nI v, cp γ 1 3 f) := by
  unfold bc_X6_readNumber_65
  refine if_f (nI_ne0 (by omega) (by omega)) ?_
  by_cases h1 : a ≤ v
  · refine if_f (nI_nlt h1 (by omega)) (if_f (nI_ge (by omega) (by omega)) ?_)
    unfold bc_X6_readNumber_82
    exact bd_g (c_fail _ h3 _) rfl
  · refine if_t (nI_lt (by omega) (by omega)) ?_
    unfold bc_X6_readNumber_82
    exact bd_g (c_fail _ h3 _) rfl
theorem m_number (n : Nat) (hn : 10 ≤ n) (hT : yTB L B) (T : TM μ L B p) (hd : dgb L B p = true) : ∃ μ1, fm_number n μ = some (nI (nv L B p), μ1) ∧ MP μ μ1 ∧ TM μ1 L B (ne L B p) := by
  obtain ⟨d1, d2, d3⟩ := dgb_t hd
  obtain ⟨μ1, r1, r3, r4⟩ := m_num_loop n hT 2 1 n (mp μ 0 10 (nI (p + 1))) (p + 1) (B p - 48) (by omega) (by omega) (by omega) (by omega) (TM_at T d1)
  refine ⟨μ1, ?_, (MP_mp μ _).tr r3, r4⟩
  unfold fm_number
  exact bd_g (m_dig1 n hT T hd) (if_f one_ne (bd_g (m_sign n hT T) (sq_r (x1 := nI (B p - 48)) (by rw [sg_is d1 rfl]; exact nI_sub (b := 48) d2 (by omega)) (sq_r (x1 := mp μ 0 10 (nI (p + 1))) (by rw [T.2.2.1, nI_1]) (sq_g r1)))))
theorem m_number0 (n : Nat) (hT : yTB L B) (T : TM μ L B p) (hd : dgb L B p = false) : fm_number n μ = some (-1, μ) := by
  unfold fm_number
  exact bd_g (m_dig0 n hT T hd) (if_t rfl rfl)
end
end
