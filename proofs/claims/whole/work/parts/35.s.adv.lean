/-! a tick in the class: the losses one by one -/
theorem nIlit0 : (0 : Int32) = nI 0 := rfl
theorem tkv_nI {kd f t air ring tone lean edge tick : Int32} {h m0 : Nat} (hh : h ≤ 9) (hm : m0 ≤ 9999) : ∃ m : Nat, m ≤ 9999 ∧ tkv kd f t air ring tone lean edge (nI h) tick (nI m0) = nI m := by
  have e2 : nI m0 / 2 = nI (m0 / 2) := nI_div (b := 2) (by omega) (by omega)
  have e9 : (9 : Int32) - nI h = nI (9 - h) := nI_sub (a := 9) hh (by omega)
  have hmul : m0 * (9 - h) ≤ 9999 * 9 := Nat.mul_le_mul hm (by omega)
  have e3 : nI m0 * nI (9 - h) = nI (m0 * (9 - h)) := nI_mul (by omega) (by omega) (by omega)
  have e4 : nI (m0 * (9 - h)) / 9 = nI (m0 * (9 - h) / 9) := nI_div (b := 9) (by omega) (by omega)
  have h0 : ∃ m : Nat, m ≤ 9999 ∧ (0 : Int32) = nI m := ⟨0, by omega, rfl⟩
  have hl : ∃ m : Nat, m ≤ 9999 ∧ nI m0 = nI m := ⟨m0, hm, rfl⟩
  unfold tkv
  by_cases c0 : kd = 0
  · rw [if_pos c0]
    by_cases c1 : air = 0
    · rw [if_pos c1]; exact h0
    · rw [if_neg c1]
      by_cases c2 : ring = 0
      · rw [if_pos c2]; exact hl
      · rw [if_neg c2, e2]; exact ⟨_, by omega, rfl⟩
  · rw [if_neg c0]
    by_cases c2 : kd = 2
    · rw [if_pos c2]
      by_cases c3 : tone < 100
      · rw [if_pos c3]; exact h0
      · rw [if_neg c3]; exact hl
    · rw [if_neg c2]
      by_cases c3 : kd = 3
      · rw [if_pos c3]
        by_cases c4 : 10 * (9 - edge) ≤ lean
        · rw [if_pos c4]; exact h0
        · rw [if_neg c4]; exact hl
      · rw [if_neg c3]
        by_cases c4 : kd = 4
        · rw [if_pos c4, e9, e3, e4]; exact ⟨_, by omega, rfl⟩
        · rw [if_neg c4]
          by_cases c6 : kd = 6
          · rw [if_pos c6]
            by_cases c7 : tick < f
            · rw [if_pos c7]; exact h0
            · rw [if_neg c7]
              by_cases c8 : t < tick
              · rw [if_pos c8]; exact h0
              · rw [if_neg c8]; exact hl
          · rw [if_neg c6]; exact hl
/-- the engine's part of a tick touches the row of what was taken, and stacks -/
def E33 (γ γ1 : CS) : Prop := γ1.2 = γ.2 ∧ ∀ a, a ≠ 33 → ¬ (34 ≤ a ∧ γ.2.2.2.2.1 a = 20) → γ1.1 a = γ.1 a
theorem E33.rf (γ : CS) : E33 γ γ := ⟨rfl, fun _ _ _ => rfl⟩
theorem E33_cp {γ γ1 : CS} (h : E33 γ γ1) (k : Nat) (v : Int32) : E33 γ (cp γ1 33 k v) := ⟨h.1, fun a h1 h2 => by rw [cp_ne _ _ _ _ h1]; exact h.2 a h1 h2⟩
theorem E33_st {γ γ1 : CS} (h : E33 γ γ1) {s : Nat} (hs : pk γ s 9 = true) (h20 : γ.2.2.2.2.1 s = 20) (f : Nat → Int32) : E33 γ (cpr γ1 s f) := ⟨h.1, fun a h1 h2 => by rw [cpr_ne _ _ _ (fun e => h2 (by subst e; exact ⟨(pk_s hs).1, h20⟩))]; exact h.2 a h1 h2⟩
theorem E33_pk {γ γ1 : CS} (h : E33 γ γ1) (q k : Nat) : pk γ1 q k = pk γ q k := by unfold pk; rw [h.1]
theorem E33_q {γ γ1 : CS} (h : E33 γ γ1) {q a s : Nat} {cs : List Int32} (hL : LOr γ q a s cs) : γ1.1 q = γ.1 q := h.2 q (by have := (pk_s hL.1).1; omega) (by rw [hL.2.1]; omega)
theorem E33_L {γ γ1 : CS} (h : E33 γ γ1) {q a s : Nat} {cs : List Int32} (hL : LOr γ q a s cs) : LOr γ1 q a s cs := by
  obtain ⟨h1, h2, h3, h4, h5, h6, h7, h8, h9, h10, h11⟩ := hL
  have ha : γ1.1 a = γ.1 a := h.2 a (by have := (pk_s h4).1; omega) (by rw [h7]; omega)
  exact ⟨by rw [E33_pk h]; exact h1, by rw [h.1]; exact h2, by rw [h.1]; exact h3, by rw [E33_pk h]; exact h4, by rw [h.1]; exact h5, by rw [E33_pk h]; exact h6, by rw [h.1]; exact h7, by rw [h.1]; exact h8, h9, h10, by rw [ha]; exact h11⟩
theorem E33_CE {γ γ1 : CS} (h : E33 γ γ1) : CE γ γ1 := ⟨by rw [h.1], fun _ _ => by rw [h.1], by rw [h.1], fun a _ _ h3 h4 => h.2 a h3 h4⟩
/-- what a loss of the class takes as the mind is -/
def tv (γ : CS) (q : Nat) (cs : List Int32) : Int32 := tkv (γ.1 q 0) (γ.1 q 1) (γ.1 q 2) (γ.1 31 9) (γ.1 31 10) (γ.1 31 4) (γ.1 31 3) (γ.1 32 4) (γ.1 32 6) (γ.1 31 5) (lw (γ.1 32) cs)
theorem E33_tv {γ γ1 : CS} (h : E33 γ γ1) {q a s : Nat} {cs : List Int32} (hL : LOr γ q a s cs) : tv γ1 q cs = tv γ q cs := by
  unfold tv
  rw [E33_q h hL, h.2 31 (by decide) (by omega), h.2 32 (by decide) (by omega)]
def bitI (x : Int32) (i : Nat) : Int32 := (x >>> (nI i &&& 31)) &&& 1
def sumV (V : Nat → Nat) : Nat → Nat
  | 0 => 0
  | i + 1 => sumV V i + V i
def lpB (V kd : Nat → Nat) : Nat → Bool
  | 0 => false
  | i + 1 => lpB V kd i || (decide (0 < V i) && decide (kd i = 3))
def fI (b : Bool) : Int32 := match b with | true => 1 | false => 0
theorem fI_or0 (b : Bool) : fI b ||| 0 = fI b := by cases b <;> decide
theorem fI_or1 (b : Bool) : fI b ||| 1 = 1 := by cases b <;> decide
theorem sumV_le {V : Nat → Nat} (h : ∀ i, V i ≤ 9999) : ∀ i, sumV V i ≤ 9999 * i := by
  intro i
  induction i with
  | zero => simp [sumV]
  | succ i ih => have := h i; simp only [sumV]; omega
/-- how a loss stands in the class at a tick: what it takes -/
def stepC (γ : CS) (V kd : Nat → Nat) (i : Nat) : Prop := ∃ q a s cs, γ.2.2.1 7 i = some q ∧ LOr γ q a s cs ∧ γ.1 q 0 = nI (kd i) ∧ kd i ≤ 6 ∧ ((bitI (γ.1 31 7) i = 0 ∧ V i = 0) ∨ (¬ bitI (γ.1 31 7) i = 0 ∧ tv γ q cs = nI (V i)))
theorem lossAt_s (n : Nat) (γ : CS) {i nl q : Nat} (hi : i < nl) (hnl : nl ≤ 8) (h9 : γ.1 5 9 = nI nl) (hq : γ.2.2.1 7 i = some q) : fc_X0_lossAt n γ (nI i) = some (some q, γ) := by
  unfold fc_X0_lossAt
  exact if_f (nI_pos (by omega)) (if_f (by rw [h9]; exact nI_ge hi (by omega)) (if_f (nI_ge (b := 8) (by omega) (by omega)) (ck_g (ib_nI (by omega) (by omega)) (sq_r (x1 := some q) (by rw [nI_clamp (by omega)]; exact hq) rfl))))
theorem lossAt_n (n : Nat) (γ : CS) {i nl : Nat} (hi : nl ≤ i) (hi2 : i < 2 ^ 31) (h9 : γ.1 5 9 = nI nl) : fc_X0_lossAt n γ (nI i) = some (none, γ) := by
  unfold fc_X0_lossAt
  exact if_f (nI_pos hi2) (if_t (by rw [h9]; exact nI_le hi hi2) rfl)
theorem adv_loop (n : Nat) (γ : CS) (nl : Nat) (V kd : Nat → Nat) (hn : 21 ≤ n) (hnl : nl ≤ 8) (h9 : γ.1 5 9 = nI nl) (hst : ∀ i, i < nl → stepC γ V kd i) (hV : ∀ i, V i ≤ 9999) (hV0 : ∀ i, nl ≤ i → V i = 0) :
    ∀ (m i k : Nat) (γi : CS), i + m = 8 → m < k → E33 γ γi → (∀ j, j < i → γi.1 33 j = nI (V j)) → ∃ (γ8 : CS) (k8 : Nat), E33 γ γ8 ∧ (∀ j, j < 8 → γ8.1 33 j = nI (V j)) ∧ lc_X2_advance_6 n k γi (nI (sumV V i)) (fI (lpB V kd i)) (nI i) = lc_X2_advance_6 n (k8 + 1) γ8 (nI (sumV V 8)) (fI (lpB V kd 8)) (nI 8) := by
  intro m
  induction m with
  | zero =>
    intro i k γi him hk hE ht
    obtain rfl : i = 8 := by omega
    obtain ⟨k, rfl⟩ : ∃ k', k = k' + 1 := ⟨k - 1, by omega⟩
    exact ⟨γi, k, hE, ht, rfl⟩
  | succ m ih =>
    intro i k γi him hk hE ht
    obtain ⟨k, rfl⟩ : ∃ k', k = k' + 1 := ⟨k - 1, by omega⟩
    have hS := sumV_le hV i
    have hVi := hV i
    have n8 : ¬ (8 : Int32) ≤ nI i := nI_ge (b := 8) (by omega) (by omega)
    have hib : ib (nI i) 8 = true := ib_nI (by omega) (by omega)
    have hci : Int32.toNatClampNeg (nI i) = i := nI_clamp (by omega)
    have h9i : γi.1 5 9 = nI nl := by rw [hE.2 5 (by decide) (by omega)]; exact h9
    have esum : nI (sumV V i) + nI (V i) = nI (sumV V (i + 1)) := nI_add _ _
    -- what follows once the part has been reckoned
    have next : ∀ γ2 : CS, E33 γ γ2 → (∀ j, j < i → γ2.1 33 j = nI (V j)) → E33 γ (cp γ2 33 (Int32.toNatClampNeg (nI i)) (nI (V i))) ∧ ∀ j, j < i + 1 → (cp γ2 33 (Int32.toNatClampNeg (nI i)) (nI (V i))).1 33 j = nI (V j) := by
      intro γ2 h2 h3
      refine ⟨E33_cp h2 _ _, fun j hj => ?_⟩
      rw [cp_1, hci]
      by_cases e : j = i
      · rw [if_pos ⟨rfl, e⟩, e]
      · rw [if_neg (fun h => e h.2)]
        exact h3 j (by omega)
    show ∃ γ8 k8, _ ∧ _ ∧ bc_X2_advance_6 n (lc_X2_advance_6 n k) γi _ _ _ = _
    by_cases hi : i < nl
    · obtain ⟨q, a, s, cs, hq, hL, hkd, hk6, hbit⟩ := hst i hi
      have hqi : γi.2.2.1 7 i = some q := by rw [hE.1]; exact hq
      have hLi := E33_L hE hL
      have hat := lossAt_s n γi hi hnl h9i hqi
      have h31 : γi.1 31 = γ.1 31 := hE.2 31 (by decide) (by omega)
      rcases hbit with ⟨hb0, hv0⟩ | ⟨hb1, htv⟩
      · obtain ⟨hE2, ht2⟩ := next γi hE ht
        obtain ⟨γ8, k8, g1, g2, g3⟩ := ih (i + 1) k _ (by omega) (by omega) hE2 ht2
        refine ⟨γ8, k8, g1, g2, ?_⟩
        rw [hv0] at esum g3
        have elp : lpB V kd (i + 1) = lpB V kd i := by simp [lpB, hv0]
        rw [elp] at g3
        unfold bc_X2_advance_6 bc_X2_advance_38 bc_X2_advance_48 bc_X2_advance_87
        refine if_f n8 (bd_g hat (if_t (show bitI (γi.1 31 7) i = 0 by rw [h31]; exact hb0) (ck_g hib (sq_g (sq_r (x1 := nI (sumV V (i + 1))) esum (if_t (Int32.le_refl 0) (sq_r (fI_or0 _) (sq_r (nI_1 i) ?_))))))))
        exact g3
      · obtain ⟨f1, htk⟩ := takenBy_eq n γi hn hLi
        have etv : tkv (γi.1 q 0) (γi.1 q 1) (γi.1 q 2) (γi.1 31 9) (γi.1 31 10) (γi.1 31 4) (γi.1 31 3) (γi.1 32 4) (γi.1 32 6) (γi.1 31 5) (lw (γi.1 32) cs) = nI (V i) := (E33_tv hE hL).trans htv
        rw [etv] at htk
        have hs := hL.2.2.2.2.2.1
        have h20 := hL.2.2.2.2.2.2.2.1
        have hs33 : (33 : Nat) ≠ s := by have := (pk_s hs).1; omega
        obtain ⟨hE2, ht2⟩ := next (cpr γi s f1) (E33_st hE hs h20 f1) (fun j hj => by rw [cpr_ne _ _ _ hs33]; exact ht j hj)
        obtain ⟨γ8, k8, g1, g2, g3⟩ := ih (i + 1) k _ (by omega) (by omega) hE2 ht2
        refine ⟨γ8, k8, g1, g2, ?_⟩
        have nbit : ¬ (γi.1 31 7 >>> (nI i &&& 31)) &&& 1 = 0 := by rw [h31]; exact hb1
        unfold bc_X2_advance_6 bc_X2_advance_48 bc_X2_advance_87
        by_cases hv : nI (V i) ≤ 0
        · have hv0 : V i = 0 := by
            rcases Nat.eq_zero_or_pos (V i) with h | h
            · exact h
            · exact absurd hv (nI_nle h (by omega))
          have elp : lpB V kd (i + 1) = lpB V kd i := by simp [lpB, hv0]
          rw [elp] at g3
          refine if_f n8 (bd_g hat (if_f nbit (bd_g htk (ck_g hib (sq_g (sq_r (x1 := nI (sumV V (i + 1))) esum (if_t hv (sq_r (fI_or0 _) (sq_r (nI_1 i) ?_)))))))))
          exact g3
        · have hvp : 0 < V i := by
            rcases Nat.eq_zero_or_pos (V i) with h | h
            · rw [h] at hv; exact absurd (Int32.le_refl 0) hv
            · exact h
          have hpk : pk (cp (cpr γi s f1) 33 (Int32.toNatClampNeg (nI i)) (nI (V i))) q 1 = true := hLi.1
          have hq0 : (cp (cpr γi s f1) 33 (Int32.toNatClampNeg (nI i)) (nI (V i))).1 q 0 = nI (kd i) := by rw [E33_q hE2 hL]; exact hkd
          by_cases k3 : kd i = 3
          · have elp : lpB V kd (i + 1) = true := by simp [lpB, hvp, k3]
            rw [elp] at g3
            refine if_f n8 (bd_g hat (if_f nbit (bd_g htk (ck_g hib (sq_g (sq_r (x1 := nI (sumV V (i + 1))) esum (if_f hv (ck_g hpk (if_t (by rw [hq0, k3]; rfl) (sq_r (x1 := fI true) (fI_or1 _) (sq_r (nI_1 i) ?_)))))))))))
            exact g3
          · have elp : lpB V kd (i + 1) = lpB V kd i := by simp [lpB, k3]
            rw [elp] at g3
            refine if_f n8 (bd_g hat (if_f nbit (bd_g htk (ck_g hib (sq_g (sq_r (x1 := nI (sumV V (i + 1))) esum (if_f hv (ck_g hpk (if_f (by rw [hq0]; exact fun h => k3 ((nI_eq (b := 3) (by omega) (by omega)).mp h)) (sq_r (fI_or0 _) (sq_r (nI_1 i) ?_)))))))))))
            exact g3
    · have hv0 : V i = 0 := hV0 i (by omega)
      have hat := lossAt_n n γi (i := i) (nl := nl) (by omega) (by omega) h9i
      obtain ⟨hE2, ht2⟩ := next γi hE ht
      obtain ⟨γ8, k8, g1, g2, g3⟩ := ih (i + 1) k _ (by omega) (by omega) hE2 ht2
      refine ⟨γ8, k8, g1, g2, ?_⟩
      rw [hv0] at esum g3
      have elp : lpB V kd (i + 1) = lpB V kd i := by simp [lpB, hv0]
      rw [elp] at g3
      unfold bc_X2_advance_6 bc_X2_advance_38 bc_X2_advance_48 bc_X2_advance_87
      refine if_f n8 (bd_g hat (ck_g hib (sq_g (sq_r (x1 := nI (sumV V (i + 1))) esum (if_t (Int32.le_refl 0) (sq_r (fI_or0 _) (sq_r (nI_1 i) ?_)))))))
      exact g3
