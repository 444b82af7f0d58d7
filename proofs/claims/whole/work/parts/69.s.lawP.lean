section
/-! products and sums -/
theorem ngs_len (R : List Int32) : (ngs R).length = R.length := by simp [ngs]
theorem ngs_end (T R : List Int32) (s : Int32) : T ++ ngs R ++ [-s] = T ++ ngs (R ++ [s]) := by simp [ngs]
section
variable {γ : CS} {μ : MS} {L : Nat} {B : Nat → Nat} {p t0 d u : Nat} {T S : List Int32}
theorem pl_f (n : Nat) (RS : Nat → CS → Int32 → Option (Int32 × CS)) (k : Nat) {f : Nat} (hf : f < 2 ^ 31) (h : γ.1 1 3 = nI f) (x1 x2 : Int32) : lc_X6_readProduct_7 RS n (k + 1) γ x1 x2 = some (0, γ) := by
  show bc_X6_readProduct_7 RS n (lc_X6_readProduct_7 RS n k) γ x1 x2 = _
  unfold bc_X6_readProduct_7
  by_cases h20 : (20 : Int32) ≤ x2
  · exact if_t h20 rfl
  · exact if_f h20 (bd_g (c_next_f n hf h) (if_f (by decide) (bd_g (c_next_f n hf h) (if_f (by decide) rfl))))
theorem sl_f (n : Nat) (RS : Nat → CS → Int32 → Option (Int32 × CS)) (k : Nat) {f : Nat} (hf : f < 2 ^ 31) (h : γ.1 1 3 = nI f) (x1 x2 : Int32) : lc_X6_readSum_7 RS n (k + 1) γ x1 x2 = some (0, γ) := by
  show bc_X6_readSum_7 RS n (lc_X6_readSum_7 RS n k) γ x1 x2 = _
  unfold bc_X6_readSum_7
  by_cases h20 : (20 : Int32) ≤ x2
  · exact if_t h20 rfl
  · exact if_f h20 (bd_g (c_next_f n hf h) (if_f (by decide) (bd_g (c_next_f n hf h) (if_f (by decide) rfl))))
theorem pl_end (n : Nat) (RS : Nat → CS → Int32 → Option (Int32 × CS)) (k : Nat) (hT : yTB L B) {C : List Int32} (H : TCL γ L B p C) (h1 : ¬ sg L B p = 42) (h2 : ¬ sg L B p = 47) (x1 x2 : Int32) : lc_X6_readProduct_7 RS n (k + 1) γ x1 x2 = some (0, γ) := by
  show bc_X6_readProduct_7 RS n (lc_X6_readProduct_7 RS n k) γ x1 x2 = _
  unfold bc_X6_readProduct_7
  by_cases h20 : (20 : Int32) ≤ x2
  · exact if_t h20 rfl
  · exact if_f h20 (bd_g (c_next n hT H.1) (if_f h1 (bd_g (c_next n hT H.1) (if_f h2 rfl))))
theorem sl_end (n : Nat) (RS : Nat → CS → Int32 → Option (Int32 × CS)) (k : Nat) (hT : yTB L B) {C : List Int32} (H : TCL γ L B p C) (h1 : ¬ sg L B p = 43) (h2 : ¬ sg L B p = 45) (x1 x2 : Int32) : lc_X6_readSum_7 RS n (k + 1) γ x1 x2 = some (0, γ) := by
  show bc_X6_readSum_7 RS n (lc_X6_readSum_7 RS n k) γ x1 x2 = _
  unfold bc_X6_readSum_7
  by_cases h20 : (20 : Int32) ≤ x2
  · exact if_t h20 rfl
  · exact if_f h20 (bd_g (c_next n hT H.1) (if_f h1 (bd_g (c_next n hT H.1) (if_f h2 rfl))))
theorem sg_two {a b : Nat} (hT : yTB L B) (ha : a < 2 ^ 31) (hb : b < 2 ^ 31) (h : ¬ (p < L ∧ (B p = a ∨ B p = b))) : ¬ sg L B p = nI a ∧ ¬ sg L B p = nI b := ⟨sg_isnt hT ha (fun e => h ⟨e.1, Or.inl e.2⟩), sg_isnt hT hb (fun e => h ⟨e.1, Or.inr e.2⟩)⟩
end
theorem prod_loop (n : Nat) (hn : 100 ≤ n) {L : Nat} {B : Nat → Nat} {t0 d u : Nat} {S : List Int32} (hT : yTB L B) (ht0 : t0 ≤ 160) (RS : Nat → CS → Int32 → Option (Int32 × CS)) (hRS : d < 4 → SUM n L B t0 RS (d + 1)) (hd4 : d ≤ 4) (hst : stp S 2) : ∀ (m k : Nat) (γ : CS) (μ : MS) (p : Nat) (T R : List Int32) (i : Nat), L ≤ p + m → m + 1 < k → i ≤ p → TCL γ L B p (T ++ ngs R) → LM μ L B p t0 T (S ++ R.reverse) d → T.length + (S.length + R.length) ≤ p → dp (T ++ ngs R) 0 = some (u + 1) → (∀ s ∈ R, isop s ∧ 2 ≤ stn s) → LR n L B t0 p d u S 0 γ μ (lc_X6_readProduct_7 RS n k γ (nI d) (nI i)) (Epr L B) := by
  have hL := hT.1
  intro m
  induction m with
  | zero =>
    intro k γ μ p T R i hm hk hi H1 H2 H3 H4 H5
    obtain ⟨k, rfl⟩ : ∃ k', k = k' + 1 := ⟨k - 1, by omega⟩
    have hs := sg_two (p := p) (a := 42) (b := 47) hT (by omega) (by omega) (fun h => by omega)
    exact Or.inl ⟨γ, μ, p, T, R, 0, pl_end n RS k hT H1 hs.1 hs.2 _ _, yTX.rf γ, H1, fun k => rfl, H2, LX.rf _ _, by omega, H3, H4, H5, hs.1, hs.2⟩
  | succ m ih =>
    intro k γ μ p T R i hm hk hi H1 H2 H3 H4 H5
    obtain ⟨k, rfl⟩ : ∃ k', k = k' + 1 := ⟨k - 1, by omega⟩
    by_cases hop : p < L ∧ (B p = 42 ∨ B p = 47)
    case neg =>
      have hs := sg_two (p := p) (a := 42) (b := 47) hT (by omega) (by omega) hop
      exact Or.inl ⟨γ, μ, p, T, R, 0, pl_end n RS k hT H1 hs.1 hs.2 _ _, yTX.rf γ, H1, fun k => rfl, H2, LX.rf _ _, by omega, H3, H4, H5, hs.1, hs.2⟩
    obtain ⟨hp, hop⟩ := hop
    obtain ⟨s, es⟩ : ∃ s, nI (B p) = s := ⟨_, rfl⟩
    have hs2 : isop s ∧ stn s = 2 := by
      rcases hop with h | h
      · rw [h] at es; subst es; exact ⟨by unfold isop; decide, by decide⟩
      · rw [h] at es; subst es; exact ⟨by unfold isop; decide, by decide⟩
    have hpL : p ≤ L := H1.1.1
    have hstep : lc_X6_readProduct_7 RS n (k + 1) γ (nI d) (nI i) = bc_X6_readProduct_31 RS n (lc_X6_readProduct_7 RS n k) γ (nI d) (nI i) := by
      show bc_X6_readProduct_7 RS n (lc_X6_readProduct_7 RS n k) γ (nI d) (nI i) = _
      unfold bc_X6_readProduct_7
      refine if_f (nI_ge (b := 20) (by omega) (by omega)) (bd_g (c_next n hT H1.1) ?_)
      by_cases e : B p = 42
      · exact if_t (sg_is hp e) rfl
      · exact if_f (sg_isnt (c := 42) hT (by omega) (fun h => e h.2)) (bd_g (c_next n hT H1.1) (if_t (sg_is (c := 47) hp (hop.resolve_left e)) rfl))
    have hst' : stp S (stn s) := by rw [hs2.2]; exact hst
    obtain ⟨μ1, r1, r2, r3⟩ := rs_op n (by omega) hT H2 hp es hs2.1 hst' (fun x hx => ⟨(H5 x hx).1, by rw [hs2.2]; exact (H5 x hx).2⟩) (by omega) (by omega)
    have hl : (S ++ [s]).length = S.length + 1 := by rw [List.length_append]; rfl
    have hl2 : (T ++ ngs R).length = T.length + R.length := by rw [List.length_append, ngs_len]
    have G1 : TCL (cp γ 1 4 (nI (p + 1))) L B (p + 1) (T ++ ngs R) := TCL_at H1 hp
    have hX1 : yTX γ (cp γ 1 4 (nI (p + 1))) := TX_cp γ (by decide) _
    have hA := atom_spec n hn hT ht0 RS hRS hd4 (γ := cp γ 1 4 (nI (p + 1))) (μ := μ1) (p := p + 1) (T := T ++ ngs R) (S := S ++ [s]) (u := u + 1) ⟨G1, r2, by rw [hl, hl2]; omega, H4⟩
    have hcl : ∀ γ3 γ4 r, fc_X6_readAtom_g RS n (cp γ 1 4 (nI (p + 1))) (nI d) = some (0, γ3) → fc_X6_write n γ3 (-s) = some (r, γ4) → lc_X6_readProduct_7 RS n (k + 1) γ (nI d) (nI i) = lc_X6_readProduct_7 RS n k γ4 (nI d) (nI (i + 1)) := fun γ3 γ4 r h1 h2 => by
      rw [hstep]
      unfold bc_X6_readProduct_31
      exact bd_g (c_next n hT H1.1) (sq_r (x1 := cp γ 1 4 (nI (p + 1))) (by rw [H1.1.2.2.2.1, nI_1]) (bd_g h1 (bd_g (a := r) (b := γ4) (by rw [sg_is hp rfl, es]; exact h2) (sq_r (nI_1 i) rfl))))
    rcases hA with ⟨γ3, μ3, p3, T3, R3, j, a1, a2, a3, a4, a5, a6, a7, a8, a9, a10⟩ | ⟨γ3, μ3, f, j, a1, a2, a3, a4, a5, a6, a7, a8⟩
    · have a10 : R3 = [] := a10
      subst a10
      rw [hl] at a8
      have a8 : T3.length + (S.length + 1 + 0) ≤ p3 := a8
      have a3 : TCL γ3 L B p3 T3 := by simpa [ngs] using a3
      have a5 : LM μ3 L B p3 t0 T3 (S ++ [s]) d := by simpa using a5
      have a9 : dp T3 0 = some (u + 2) := by simpa [ngs] using a9
      have hp3 : p3 ≤ L := a3.1.1
      obtain ⟨γ4, w1, w2, w3⟩ := c_write n a3 (by omega) (-s)
      refine LR_pre (j + 1) (μ' := μ3) (γ' := γ4) (p2 := p3) (w' := 0) (fun k => by rw [show k + (j + 1) = (k + j) + 1 by omega, r1, a4]) (r3.tr a6) ((hX1.tr a2).tr w2) (by omega) (hcl _ _ _ a1 w1) (ih k γ4 μ3 p3 T3 [s] (i + 1) (by omega) (by omega) (by omega) w3 (by simpa using a5) (by simpa using a8) (dp_op a9 hs2.1) (fun x hx => ?_))
      rw [List.mem_singleton] at hx
      subst hx
      exact ⟨hs2.1, by omega⟩
    · obtain ⟨γ4, w1, w2, w3⟩ := c_write_f n γ3 (-s)
      obtain ⟨k, rfl⟩ : ∃ k', k = k' + 1 := ⟨k - 1, by omega⟩
      exact Or.inr ⟨γ4, μ3, f, j + 1, (hcl _ _ _ a1 w1).trans (pl_f n RS k (f := f) (by omega) (by rw [w3]; exact a3) _ _), (hX1.tr a2).tr w2, by rw [w3]; exact a3, a4, fun k => by rw [show k + (j + 1) = (k + j) + 1 by omega, r1, a5], a6, r3.tr a7, by omega⟩
theorem prod_spec (n : Nat) (hn : 100 ≤ n) {L : Nat} {B : Nat → Nat} {t0 d u : Nat} {S : List Int32} (hT : yTB L B) (ht0 : t0 ≤ 160) (RS : Nat → CS → Int32 → Option (Int32 × CS)) (hRS : d < 4 → SUM n L B t0 RS (d + 1)) (hd4 : d ≤ 4) (hst : stp S 2) {γ : CS} {μ : MS} {p : Nat} {T : List Int32} (H : LW γ μ L B p t0 T S d u) : LR n L B t0 p d u S 1 γ μ (fc_X6_readProduct_g RS n γ (nI d)) (Epr L B) := by
  have hL := hT.1
  unfold fc_X6_readProduct_g
  rcases atom_spec n hn hT ht0 RS hRS hd4 H with ⟨γ3, μ3, p3, T3, R3, j, a1, a2, a3, a4, a5, a6, a7, a8, a9, a10⟩ | ⟨γ3, μ3, f, j, a1, a2, a3, a4, a5, a6, a7, a8⟩
  · have a10 : R3 = [] := a10
    subst a10
    exact LR_pre j a4 a6 a2 a7 (bd_g a1 (sq_g rfl)) (prod_loop n hn hT ht0 RS hRS hd4 hst 20 n γ3 μ3 p3 T3 [] 0 (by omega) (by omega) (by omega) a3 a5 a8 a9 (fun s hs => absurd hs List.not_mem_nil))
  · obtain ⟨n', rfl⟩ : ∃ n', n = n' + 1 := ⟨n - 1, by omega⟩
    exact Or.inr ⟨γ3, μ3, f, j, bd_g a1 (sq_g (pl_f (n' + 1) RS n' (f := f) (by omega) a3 _ _)), a2, a3, a4, a5, a6, a7, a8⟩
theorem sum_loop (n : Nat) (hn : 100 ≤ n) {L : Nat} {B : Nat → Nat} {t0 d u : Nat} {S : List Int32} (hT : yTB L B) (ht0 : t0 ≤ 160) (RS : Nat → CS → Int32 → Option (Int32 × CS)) (hRS : d < 4 → SUM n L B t0 RS (d + 1)) (hd4 : d ≤ 4) (hst : stp S 1) : ∀ (m k : Nat) (γ : CS) (μ : MS) (p : Nat) (T R : List Int32) (i : Nat), L ≤ p + m → m + 1 < k → i ≤ p → TCL γ L B p (T ++ ngs R) → LM μ L B p t0 T (S ++ R.reverse) d → T.length + (S.length + R.length) ≤ p → dp (T ++ ngs R) 0 = some (u + 1) → (∀ s ∈ R, isop s) → ¬ sg L B p = 42 → ¬ sg L B p = 47 → LR n L B t0 p d u S 0 γ μ (lc_X6_readSum_7 RS n k γ (nI d) (nI i)) (Esu L B) := by
  have hL := hT.1
  intro m
  induction m with
  | zero =>
    intro k γ μ p T R i hm hk hi H1 H2 H3 H4 H5 H6 H7
    obtain ⟨k, rfl⟩ : ∃ k', k = k' + 1 := ⟨k - 1, by omega⟩
    have hs := sg_two (p := p) (a := 43) (b := 45) hT (by omega) (by omega) (fun h => by omega)
    exact Or.inl ⟨γ, μ, p, T, R, 0, sl_end n RS k hT H1 hs.1 hs.2 _ _, yTX.rf γ, H1, fun k => rfl, H2, LX.rf _ _, by omega, H3, H4, H5, H6, H7, hs.1, hs.2⟩
  | succ m ih =>
    intro k γ μ p T R i hm hk hi H1 H2 H3 H4 H5 H6 H7
    obtain ⟨k, rfl⟩ : ∃ k', k = k' + 1 := ⟨k - 1, by omega⟩
    by_cases hop : p < L ∧ (B p = 43 ∨ B p = 45)
    case neg =>
      have hs := sg_two (p := p) (a := 43) (b := 45) hT (by omega) (by omega) hop
      exact Or.inl ⟨γ, μ, p, T, R, 0, sl_end n RS k hT H1 hs.1 hs.2 _ _, yTX.rf γ, H1, fun k => rfl, H2, LX.rf _ _, by omega, H3, H4, H5, H6, H7, hs.1, hs.2⟩
    obtain ⟨hp, hop⟩ := hop
    obtain ⟨s, es⟩ : ∃ s, nI (B p) = s := ⟨_, rfl⟩
    have hs2 : isop s ∧ stn s = 1 := by
      rcases hop with h | h
      · rw [h] at es; subst es; exact ⟨by unfold isop; decide, by decide⟩
      · rw [h] at es; subst es; exact ⟨by unfold isop; decide, by decide⟩
    have hpL : p ≤ L := H1.1.1
    have hstep : lc_X6_readSum_7 RS n (k + 1) γ (nI d) (nI i) = bc_X6_readSum_31 RS n (lc_X6_readSum_7 RS n k) γ (nI d) (nI i) := by
      show bc_X6_readSum_7 RS n (lc_X6_readSum_7 RS n k) γ (nI d) (nI i) = _
      unfold bc_X6_readSum_7
      refine if_f (nI_ge (b := 20) (by omega) (by omega)) (bd_g (c_next n hT H1.1) ?_)
      by_cases e : B p = 43
      · exact if_t (sg_is hp e) rfl
      · exact if_f (sg_isnt (c := 43) hT (by omega) (fun h => e h.2)) (bd_g (c_next n hT H1.1) (if_t (sg_is (c := 45) hp (hop.resolve_left e)) rfl))
    have hst' : stp S (stn s) := by rw [hs2.2]; exact hst
    obtain ⟨μ1, r1, r2, r3⟩ := rs_op n (by omega) hT H2 hp es hs2.1 hst' (fun x hx => ⟨H5 x hx, by rw [hs2.2]; exact (stn_op (H5 x hx)).1⟩) (by omega) (by omega)
    have hl : (S ++ [s]).length = S.length + 1 := by rw [List.length_append]; rfl
    have hl2 : (T ++ ngs R).length = T.length + R.length := by rw [List.length_append, ngs_len]
    have G1 : TCL (cp γ 1 4 (nI (p + 1))) L B (p + 1) (T ++ ngs R) := TCL_at H1 hp
    have hX1 : yTX γ (cp γ 1 4 (nI (p + 1))) := TX_cp γ (by decide) _
    have hA := prod_spec n hn hT ht0 RS hRS hd4 (S := S ++ [s]) (Or.inr ⟨S, s, rfl, Or.inr ⟨hs2.1, by omega⟩⟩) (γ := cp γ 1 4 (nI (p + 1))) (μ := μ1) (p := p + 1) (T := T ++ ngs R) (u := u + 1) ⟨G1, r2, by rw [hl, hl2]; omega, H4⟩
    have hcl : ∀ γ3 γ4 r, fc_X6_readProduct_g RS n (cp γ 1 4 (nI (p + 1))) (nI d) = some (0, γ3) → fc_X6_write n γ3 (-s) = some (r, γ4) → lc_X6_readSum_7 RS n (k + 1) γ (nI d) (nI i) = lc_X6_readSum_7 RS n k γ4 (nI d) (nI (i + 1)) := fun γ3 γ4 r h1 h2 => by
      rw [hstep]
      unfold bc_X6_readSum_31
      exact bd_g (c_next n hT H1.1) (sq_r (x1 := cp γ 1 4 (nI (p + 1))) (by rw [H1.1.2.2.2.1, nI_1]) (bd_g h1 (bd_g (a := r) (b := γ4) (by rw [sg_is hp rfl, es]; exact h2) (sq_r (nI_1 i) rfl))))
    rcases hA with ⟨γ3, μ3, p3, T3, R3, j, a1, a2, a3, a4, a5, a6, a7, a8, a9, a10⟩ | ⟨γ3, μ3, f, j, a1, a2, a3, a4, a5, a6, a7, a8⟩
    · rw [hl] at a8
      have hp3 : p3 ≤ L := a3.1.1
      have hl3 : (T3 ++ ngs R3).length = T3.length + R3.length := by rw [List.length_append, ngs_len]
      obtain ⟨γ4, w1, w2, w3⟩ := c_write n a3 (by omega) (-s)
      have h9 := dp_op a9 hs2.1
      rw [ngs_end] at w3 h9
      refine LR_pre (j + 1) (μ' := μ3) (γ' := γ4) (p2 := p3) (w' := 0) (fun k => by rw [show k + (j + 1) = (k + j) + 1 by omega, r1, a4]) (r3.tr a6) ((hX1.tr a2).tr w2) (by omega) (hcl _ _ _ a1 w1) (ih k γ4 μ3 p3 T3 (R3 ++ [s]) (i + 1) (by omega) (by omega) (by omega) w3 (by simpa using a5) (by rw [List.length_append]; show T3.length + (S.length + (R3.length + 1)) ≤ p3; omega) h9 (fun x hx => ?_) a10.2.1 a10.2.2)
      rcases List.mem_append.mp hx with hx | hx
      · exact (a10.1 x hx).1
      · rw [List.mem_singleton] at hx
        subst hx
        exact hs2.1
    · obtain ⟨γ4, w1, w2, w3⟩ := c_write_f n γ3 (-s)
      obtain ⟨k, rfl⟩ : ∃ k', k = k' + 1 := ⟨k - 1, by omega⟩
      exact Or.inr ⟨γ4, μ3, f, j + 1, (hcl _ _ _ a1 w1).trans (sl_f n RS k (f := f) (by omega) (by rw [w3]; exact a3) _ _), (hX1.tr a2).tr w2, by rw [w3]; exact a3, a4, fun k => by rw [show k + (j + 1) = (k + j) + 1 by omega, r1, a5], a6, r3.tr a7, by omega⟩
theorem sum_g (n : Nat) (hn : 100 ≤ n) {L : Nat} {B : Nat → Nat} {t0 d : Nat} (hT : yTB L B) (ht0 : t0 ≤ 160) (RS : Nat → CS → Int32 → Option (Int32 × CS)) (hRS : d < 4 → SUM n L B t0 RS (d + 1)) (hd4 : d ≤ 4) : SUM n L B t0 (fc_X6_readSum_g RS) d := by
  intro γ μ p T S u H hst
  have hL := hT.1
  show LR n L B t0 p d u S 1 γ μ (fc_X6_readSum_g RS n γ (nI d)) (Esu L B)
  unfold fc_X6_readSum_g
  rcases prod_spec n hn hT ht0 RS hRS hd4 (stp_2 hst) H with ⟨γ3, μ3, p3, T3, R3, j, a1, a2, a3, a4, a5, a6, a7, a8, a9, a10⟩ | ⟨γ3, μ3, f, j, a1, a2, a3, a4, a5, a6, a7, a8⟩
  · exact LR_pre j a4 a6 a2 a7 (bd_g a1 (sq_g rfl)) (sum_loop n hn hT ht0 RS hRS hd4 hst 20 n γ3 μ3 p3 T3 R3 0 (by omega) (by omega) (by omega) a3 a5 a8 a9 (fun s hs => (a10.1 s hs).1) a10.2.1 a10.2.2)
  · obtain ⟨n', rfl⟩ : ∃ n', n = n' + 1 := ⟨n - 1, by omega⟩
    exact Or.inr ⟨γ3, μ3, f, j, bd_g a1 (sq_g (sl_f (n' + 1) RS n' (f := f) (by omega) a3 _ _)), a2, a3, a4, a5, a6, a7, a8⟩
theorem sum_all (n : Nat) (hn : 100 ≤ n) {L : Nat} {B : Nat → Nat} {t0 : Nat} (hT : yTB L B) (ht0 : t0 ≤ 160) : ∀ (m d : Nat), d + m = 4 → SUM n L B t0 (fc_X6_readSum (4 + m)) d := by
  intro m
  induction m with
  | zero =>
    intro d hd
    exact sum_g n hn hT ht0 (fc_X6_readSum 3) (fun h => absurd h (by omega)) (by omega)
  | succ m ih =>
    intro d hd
    exact sum_g n hn hT ht0 (fc_X6_readSum (4 + m)) (fun _ => ih (d + 1) (by omega)) (by omega)
end
