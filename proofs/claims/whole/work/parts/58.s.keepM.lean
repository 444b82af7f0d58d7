section
/-! THE IMAGE in the reference: rows and numbers kept, and put back -/
theorem mp56 (μ : MS) (v : Int32) {a : Nat} (h : a ≠ 0) : (mp μ 0 56 v).1 a = μ.1 a := mp_ne _ _ _ _ h
theorem mlen_le (a : Nat) : mlen a ≤ 800 := by
  unfold mlen
  split <;> omega
theorem turnK_loop (n : Nat) {a o : Nat} (ha0 : a ≠ 0) (ha : a ≠ 24) (hok : mok a = true) (ho : o + mlen a ≤ 800) : ∀ (m i k : Nat) (μ : MS), i + m = mlen a → m < k → μ.1 0 55 = 1 → μ.1 0 56 = nI (o + i) → ∃ μ1, lm_turns_2 n k μ a (nI i) = some (0, μ1) ∧ μ1.2 = μ.2 ∧ (∀ b, b ≠ 0 → b ≠ 24 → μ1.1 b = μ.1 b) ∧ (∀ k, k ≠ 56 → μ1.1 0 k = μ.1 0 k) ∧ μ1.1 0 56 = nI (o + mlen a) ∧ (∀ j, i ≤ j → j < mlen a → μ1.1 24 (o + j) = μ.1 a j) ∧ (∀ j, j < o + i → μ1.1 24 j = μ.1 24 j) := by
  have hml := mlen_le a
  intro m
  induction m with
  | zero =>
    intro i k μ hi hk h55 h56
    obtain ⟨k, rfl⟩ : ∃ k', k = k' + 1 := ⟨k - 1, by omega⟩
    exact ⟨μ, ck_g hok (if_t (nI_le (by omega) (by omega)) rfl), rfl, fun _ _ _ => rfl, fun _ _ => rfl, by rw [h56]; congr 1; omega, fun j h1 h2 => absurd h2 (by omega), fun _ _ => rfl⟩
  | succ m ih =>
    intro i k μ hi hk h55 h56
    obtain ⟨k, rfl⟩ : ∃ k', k = k' + 1 := ⟨k - 1, by omega⟩
    have hci : Int32.toNatClampNeg (nI i) = i := nI_clamp (by omega)
    have hco : Int32.toNatClampNeg (nI (o + i)) = o + i := nI_clamp (by omega)
    have h0 : (mp μ 24 (o + i) (μ.1 a i)).1 0 = μ.1 0 := mp_ne _ _ _ _ (by decide)
    obtain ⟨μ1, r1, r2, r3, r4, r5, r6, r7⟩ := ih (i + 1) k (mp (mp μ 24 (o + i) (μ.1 a i)) 0 56 (nI (o + (i + 1)))) (by omega) (by omega) (by rw [mp_1, if_neg (by omega), h0]; exact h55) (by rw [mp_1, if_pos ⟨rfl, rfl⟩])
    refine ⟨μ1, ?_, r2, fun b g0 g24 => by rw [r3 b g0 g24, mp_ne _ _ _ _ g0, mp_ne _ _ _ _ g24], fun k hk => by rw [r4 k hk, mp_1, if_neg (by omega), h0], r5, fun j h1 h2 => ?_, fun j hj => ?_⟩
    · show bm_turns_2 n (lm_turns_2 n k) μ a (nI i) = _
      unfold bm_turns_2
      refine ck_g hok (if_f (nI_ge (by omega) (by omega)) (if_f (by rw [h55]; exact one_ne) (ck_g hok (ck_g (ib_nI (by omega) (by omega)) (sq_r (x1 := μ.1 a i) (by rw [hci]) (ck_g (by rw [h56]; exact ib_nI (by omega) (by omega)) (sq_r (x1 := mp μ 24 (o + i) (μ.1 a i)) (by rw [h56, hco]) ?_)))))))
      unfold bm_turns_42
      exact sq_r (x1 := mp (mp μ 24 (o + i) (μ.1 a i)) 0 56 (nI (o + (i + 1)))) (by rw [h0, h56, nI_1]; rfl) (sq_r (nI_1 i) r1)
    · by_cases e : j = i
      · subst e
        rw [r7 (o + j) (by omega), mp_ne _ _ _ _ (by decide), mp_1, if_pos ⟨rfl, rfl⟩]
      · rw [r6 j (by omega) h2, mp_ne _ _ _ _ ha0, mp_ne _ _ _ _ ha]
    · rw [r7 j (by omega), mp_ne _ _ _ _ (by decide), mp_1, if_neg (by omega)]
theorem turnR_loop (n : Nat) {a o : Nat} (ha0 : a ≠ 0) (ha : a ≠ 24) (hok : mok a = true) (ho : o + mlen a ≤ 800) : ∀ (m i k : Nat) (μ : MS), i + m = mlen a → m < k → μ.1 0 55 = 0 → μ.1 0 56 = nI (o + i) → ∃ μ1, lm_turns_2 n k μ a (nI i) = some (0, μ1) ∧ μ1.2 = μ.2 ∧ (∀ b, b ≠ 0 → b ≠ a → μ1.1 b = μ.1 b) ∧ (∀ k, k ≠ 56 → μ1.1 0 k = μ.1 0 k) ∧ μ1.1 0 56 = nI (o + mlen a) ∧ (∀ j, i ≤ j → j < mlen a → μ1.1 a j = μ.1 24 (o + j)) ∧ (∀ j, j < i → μ1.1 a j = μ.1 a j) := by
  have hml := mlen_le a
  intro m
  induction m with
  | zero =>
    intro i k μ hi hk h55 h56
    obtain ⟨k, rfl⟩ : ∃ k', k = k' + 1 := ⟨k - 1, by omega⟩
    exact ⟨μ, ck_g hok (if_t (nI_le (by omega) (by omega)) rfl), rfl, fun _ _ _ => rfl, fun _ _ => rfl, by rw [h56]; congr 1; omega, fun j h1 h2 => absurd h2 (by omega), fun _ _ => rfl⟩
  | succ m ih =>
    intro i k μ hi hk h55 h56
    obtain ⟨k, rfl⟩ : ∃ k', k = k' + 1 := ⟨k - 1, by omega⟩
    have hci : Int32.toNatClampNeg (nI i) = i := nI_clamp (by omega)
    have hco : Int32.toNatClampNeg (nI (o + i)) = o + i := nI_clamp (by omega)
    have h0 : (mp μ a i (μ.1 24 (o + i))).1 0 = μ.1 0 := mp_ne _ _ _ _ (fun e => ha0 e.symm)
    obtain ⟨μ1, r1, r2, r3, r4, r5, r6, r7⟩ := ih (i + 1) k (mp (mp μ a i (μ.1 24 (o + i))) 0 56 (nI (o + (i + 1)))) (by omega) (by omega) (by rw [mp_1, if_neg (by omega), h0]; exact h55) (by rw [mp_1, if_pos ⟨rfl, rfl⟩])
    refine ⟨μ1, ?_, r2, fun b g0 g24 => by rw [r3 b g0 g24, mp_ne _ _ _ _ g0, mp_ne _ _ _ _ g24], fun k hk => by rw [r4 k hk, mp_1, if_neg (by omega), h0], r5, fun j h1 h2 => ?_, fun j hj => ?_⟩
    · show bm_turns_2 n (lm_turns_2 n k) μ a (nI i) = _
      unfold bm_turns_2
      refine ck_g hok (if_f (nI_ge (by omega) (by omega)) (if_t h55 (ck_g (by rw [h56]; exact ib_nI (by omega) (by omega)) (sq_r (x1 := μ.1 24 (o + i)) (by rw [h56, hco]) (ck_g hok (ck_g (ib_nI (by omega) (by omega)) (sq_r (x1 := mp μ a i (μ.1 24 (o + i))) (by rw [hci]) ?_)))))))
      unfold bm_turns_42
      exact sq_r (x1 := mp (mp μ a i (μ.1 24 (o + i))) 0 56 (nI (o + (i + 1)))) (by rw [h0, h56, nI_1]; rfl) (sq_r (nI_1 i) r1)
    · by_cases e : j = i
      · subst e
        rw [r7 j (by omega), mp_ne _ _ _ _ ha0, mp_1, if_pos ⟨rfl, rfl⟩]
      · rw [r6 j (by omega) h2, mp_ne _ _ _ _ (by decide), mp_ne _ _ _ _ (fun e => ha e.symm)]
    · rw [r7 j (by omega), mp_ne _ _ _ _ ha0, mp_1, if_neg (by omega)]
/-- kept so far: rows (which, from where, how long) and numbers (which, where) -/
def KP (μ0 μ : MS) (L : List (Nat × Nat × Nat)) (S : List (Nat × Nat)) (o : Nat) : Prop := μ.2 = μ0.2 ∧ μ.1 0 55 = 1 ∧ μ.1 0 56 = nI o ∧ (∀ p ∈ L, p.2.1 + p.2.2 ≤ o ∧ ∀ j, j < p.2.2 → μ.1 24 (p.2.1 + j) = μ0.1 p.1 j) ∧ (∀ p ∈ S, p.2 < o ∧ μ.1 24 p.2 = μ0.1 0 p.1) ∧ (∀ b, b ≠ 0 → b ≠ 24 → μ.1 b = μ0.1 b) ∧ (∀ k, k ≠ 56 → μ.1 0 k = μ0.1 0 k)
theorem KP_t (n : Nat) (hn : 1000 ≤ n) {μ0 μ : MS} {L : List (Nat × Nat × Nat)} {S : List (Nat × Nat)} {o : Nat} (a l : Nat) (hl : mlen a = l) (H : KP μ0 μ L S o) (ha0 : a ≠ 0) (ha : a ≠ 24) (hok : mok a = true) (ho : o + l ≤ 800) : ∃ μ1, fm_turns n μ a = some (0, μ1) ∧ KP μ0 μ1 ((a, o, l) :: L) S (o + l) := by
  subst hl
  obtain ⟨h1, h2, h3, h4, h5, h6, h7⟩ := H
  obtain ⟨μ1, r1, r2, r3, r4, r5, r6, r7⟩ := turnK_loop n ha0 ha hok ho (mlen a) 0 n μ (by omega) (by omega) h2 h3
  refine ⟨μ1, r1, r2.trans h1, (r4 55 (by decide)).trans h2, r5, fun p hp => ?_, fun p hp => ⟨by have := (h5 p hp).1; omega, by rw [r7 _ (by have := (h5 p hp).1; omega)]; exact (h5 p hp).2⟩, fun b g1 g2 => (r3 b g1 g2).trans (h6 b g1 g2), fun k hk => (r4 k hk).trans (h7 k hk)⟩
  rcases List.mem_cons.mp hp with rfl | hp
  · exact ⟨Nat.le_refl _, fun j hj => by rw [r6 j (by omega) hj, h6 a ha0 ha]⟩
  · obtain ⟨u1, u2⟩ := h4 p hp
    exact ⟨by omega, fun j hj => by rw [r7 _ (by omega)]; exact u2 j hj⟩
theorem KP_o (n : Nat) {μ0 μ : MS} {L : List (Nat × Nat × Nat)} {S : List (Nat × Nat)} {o : Nat} (k : Nat) (H : KP μ0 μ L S o) (hk : k ≠ 56) (hk5 : k ≠ 55) (ho : o < 800) : ∃ r μ1, fm_passOne n μ (μ.1 0 k) = some (r, μ1) ∧ KP μ0 (mp μ1 0 k r) L ((k, o) :: S) (o + 1) := by
  obtain ⟨h1, h2, h3, h4, h5, h6, h7⟩ := H
  have e0 : (mp μ 24 o (μ.1 0 k)).1 0 = μ.1 0 := mp_ne _ _ _ _ (by decide)
  have hco : Int32.toNatClampNeg (nI o) = o := nI_clamp (by omega)
  refine ⟨μ.1 0 k, mp (mp μ 24 o (μ.1 0 k)) 0 56 (nI (o + 1)), ?_, h1, ?_, ?_, fun p hp => ?_, fun p hp => ?_, fun b g0 g24 => ?_, fun j hj => ?_⟩
  · unfold fm_passOne
    refine if_f (by rw [h2]; exact one_ne) ?_
    unfold bm_passOne_20
    refine if_f (by rw [h2]; exact one_ne) (ck_g (by rw [h3]; exact ib_nI ho (by omega)) (sq_r (x1 := mp μ 24 o (μ.1 0 k)) (by rw [h3, hco]) ?_))
    unfold bm_passOne_38
    exact sq_r (x1 := mp (mp μ 24 o (μ.1 0 k)) 0 56 (nI (o + 1))) (by rw [e0, h3, nI_1]) rfl
  · rw [mp_1, if_neg (by omega), mp_1, if_neg (by omega), e0]; exact h2
  · rw [mp_1, if_neg (by omega), mp_1, if_pos ⟨rfl, rfl⟩]
  · obtain ⟨u1, u2⟩ := h4 p hp
    exact ⟨by omega, fun j hj => by rw [mp_ne _ _ _ _ (by decide), mp_ne _ _ _ _ (by decide), mp_1, if_neg (by omega)]; exact u2 j hj⟩
  · rw [mp_ne _ _ _ _ (by decide), mp_ne _ _ _ _ (by decide), mp_1]
    rcases List.mem_cons.mp hp with rfl | hp
    · exact ⟨Nat.lt_succ_self _, by rw [if_pos ⟨rfl, rfl⟩]; exact h7 k hk⟩
    · obtain ⟨u1, u2⟩ := h5 p hp
      exact ⟨by omega, by rw [if_neg (by omega)]; exact u2⟩
  · rw [mp_ne _ _ _ _ g0, mp_ne _ _ _ _ g0, mp_ne _ _ _ _ g24]; exact h6 b g0 g24
  · rw [mp_1]
    by_cases e : j = k
    · rw [if_pos ⟨rfl, e⟩, e]; exact h7 k hk
    · rw [if_neg (by omega), mp_1, if_neg (by omega), e0]; exact h7 j hj
/-- put back so far -/
def RP (μ0 μ : MS) (L : List (Nat × Nat × Nat)) (S : List (Nat × Nat)) (o : Nat) : Prop := μ.2 = μ0.2 ∧ μ.1 0 55 = 0 ∧ μ.1 0 56 = nI o ∧ (∀ p ∈ L, p.1 ≠ 0 ∧ ∀ j, j < p.2.2 → μ.1 p.1 j = μ0.1 24 (p.2.1 + j)) ∧ (∀ p ∈ S, p.1 ≠ 56 ∧ μ.1 0 p.1 = μ0.1 24 p.2) ∧ (∀ b, b ≠ 0 → (∀ p ∈ L, p.1 ≠ b) → μ.1 b = μ0.1 b) ∧ (∀ k, k ≠ 56 → (∀ p ∈ S, p.1 ≠ k) → μ.1 0 k = μ0.1 0 k)
theorem RP_t (n : Nat) (hn : 1000 ≤ n) {μ0 μ : MS} {L : List (Nat × Nat × Nat)} {S : List (Nat × Nat)} {o : Nat} (a l : Nat) (hl : mlen a = l) (H : RP μ0 μ L S o) (ha0 : a ≠ 0) (ha : a ≠ 24) (hok : mok a = true) (ho : o + l ≤ 800) (hL : ∀ p ∈ L, p.1 ≠ a) (h24 : ∀ p ∈ L, p.1 ≠ 24) : ∃ μ1, fm_turns n μ a = some (0, μ1) ∧ RP μ0 μ1 ((a, o, l) :: L) S (o + l) := by
  subst hl
  obtain ⟨h1, h2, h3, h4, h5, h6, h7⟩ := H
  obtain ⟨μ1, r1, r2, r3, r4, r5, r6, r7⟩ := turnR_loop n ha0 ha hok ho (mlen a) 0 n μ (by omega) (by omega) h2 h3
  refine ⟨μ1, r1, r2.trans h1, (r4 55 (by decide)).trans h2, r5, fun p hp => ?_, fun p hp => ⟨(h5 p hp).1, by rw [r4 _ (h5 p hp).1]; exact (h5 p hp).2⟩, fun b g1 g2 => ?_, fun k hk g => (r4 k hk).trans (h7 k hk g)⟩
  · rcases List.mem_cons.mp hp with rfl | hp
    · exact ⟨ha0, fun j hj => by rw [r6 j (by omega) hj, h6 24 (by decide) h24]⟩
    · obtain ⟨u1, u2⟩ := h4 p hp
      exact ⟨u1, fun j hj => by rw [r3 _ u1 (hL p hp)]; exact u2 j hj⟩
  · rw [r3 b g1 (fun e => g2 _ List.mem_cons_self e.symm)]
    exact h6 b g1 (fun p hp => g2 p (List.mem_cons_of_mem _ hp))
theorem RP_o (n : Nat) {μ0 μ : MS} {L : List (Nat × Nat × Nat)} {S : List (Nat × Nat)} {o : Nat} (k : Nat) (H : RP μ0 μ L S o) (hk : k ≠ 56) (hk5 : k ≠ 55) (ho : o < 800) (hS : ∀ p ∈ S, p.1 ≠ k) (h24 : ∀ p ∈ L, p.1 ≠ 24) : ∃ r μ1, fm_passOne n μ (μ.1 0 k) = some (r, μ1) ∧ RP μ0 (mp μ1 0 k r) L ((k, o) :: S) (o + 1) := by
  obtain ⟨h1, h2, h3, h4, h5, h6, h7⟩ := H
  have hco : Int32.toNatClampNeg (nI o) = o := nI_clamp (by omega)
  have e24 : μ.1 24 o = μ0.1 24 o := by rw [h6 24 (by decide) h24]
  refine ⟨μ0.1 24 o, mp μ 0 56 (nI (o + 1)), ?_, h1, ?_, ?_, fun p hp => ?_, fun p hp => ?_, fun b g0 g24 => ?_, fun j hj g => ?_⟩
  · unfold fm_passOne
    refine if_t h2 (ck_g (by rw [h3]; exact ib_nI ho (by omega)) (sq_r (x1 := μ0.1 24 o) (by rw [h3, hco]; exact e24) ?_))
    unfold bm_passOne_20
    refine if_t h2 ?_
    unfold bm_passOne_38
    exact sq_r (x1 := mp μ 0 56 (nI (o + 1))) (by rw [h3, nI_1]) rfl
  · rw [mp_1, if_neg (by omega), mp_1, if_neg (by omega)]; exact h2
  · rw [mp_1, if_neg (by omega), mp_1, if_pos ⟨rfl, rfl⟩]
  · obtain ⟨u1, u2⟩ := h4 p hp
    exact ⟨u1, fun j hj => by rw [mp_ne _ _ _ _ u1, mp_ne _ _ _ _ u1]; exact u2 j hj⟩
  · rcases List.mem_cons.mp hp with rfl | hp
    · exact ⟨hk, by rw [mp_1, if_pos ⟨rfl, rfl⟩]⟩
    · obtain ⟨u1, u2⟩ := h5 p hp
      exact ⟨u1, by rw [mp_1, if_neg (fun h => hS p hp h.2), mp_1, if_neg (fun h => u1 h.2)]; exact u2⟩
  · rw [mp_ne _ _ _ _ g0, mp_ne _ _ _ _ g0]; exact h6 b g0 g24
  · rw [mp_1, if_neg (fun h => g _ List.mem_cons_self h.2.symm), mp_1, if_neg (by omega)]
    exact h7 j hj (fun p hp => g p (List.mem_cons_of_mem _ hp))
def kpL : List (Nat × Nat × Nat) := [(23, 617, 4), (22, 613, 4), (21, 589, 24), (20, 489, 100), (19, 389, 100), (15, 379, 10), (14, 79, 300), (13, 70, 9), (12, 61, 9), (11, 52, 9), (10, 43, 9), (9, 39, 4), (8, 35, 4), (7, 28, 7), (6, 21, 7), (5, 14, 7), (4, 7, 7), (3, 0, 7)]
def kpS : List (Nat × Nat) := [(52, 634), (49, 633), (48, 632), (45, 631), (44, 630), (43, 629), (42, 628), (41, 627), (40, 626), (39, 625), (38, 624), (21, 623), (12, 622), (11, 621)]
theorem keep_all (n : Nat) (hn : 1000 ≤ n) {μ0 : MS} (h55 : μ0.1 0 55 = 1) : ∃ μ1, fm_passesAll n μ0 = some (0, μ1) ∧ KP μ0 μ1 kpL kpS 635 := by
  have K0 : KP μ0 (mp μ0 0 56 0) [] [] 0 := ⟨rfl, by rw [mp_1, if_neg (by omega)]; exact h55, by rw [mp_1, if_pos ⟨rfl, rfl⟩]; rfl, fun p hp => absurd hp List.not_mem_nil, fun p hp => absurd hp List.not_mem_nil, fun b g _ => mp_ne _ _ _ _ g, fun k hk => by rw [mp_1, if_neg (by omega)]⟩
  obtain ⟨μ1, e1, K1⟩ := KP_t n hn 3 7 rfl K0 (by decide) (by decide) (by decide) (by decide)
  obtain ⟨μ2, e2, K2⟩ := KP_t n hn 4 7 rfl K1 (by decide) (by decide) (by decide) (by decide)
  obtain ⟨μ3, e3, K3⟩ := KP_t n hn 5 7 rfl K2 (by decide) (by decide) (by decide) (by decide)
  obtain ⟨μ4, e4, K4⟩ := KP_t n hn 6 7 rfl K3 (by decide) (by decide) (by decide) (by decide)
  obtain ⟨μ5, e5, K5⟩ := KP_t n hn 7 7 rfl K4 (by decide) (by decide) (by decide) (by decide)
  obtain ⟨μ6, e6, K6⟩ := KP_t n hn 8 4 rfl K5 (by decide) (by decide) (by decide) (by decide)
  obtain ⟨μ7, e7, K7⟩ := KP_t n hn 9 4 rfl K6 (by decide) (by decide) (by decide) (by decide)
  obtain ⟨μ8, e8, K8⟩ := KP_t n hn 10 9 rfl K7 (by decide) (by decide) (by decide) (by decide)
  obtain ⟨μ9, e9, K9⟩ := KP_t n hn 11 9 rfl K8 (by decide) (by decide) (by decide) (by decide)
  obtain ⟨μ10, e10, K10⟩ := KP_t n hn 12 9 rfl K9 (by decide) (by decide) (by decide) (by decide)
  obtain ⟨μ11, e11, K11⟩ := KP_t n hn 13 9 rfl K10 (by decide) (by decide) (by decide) (by decide)
  obtain ⟨μ12, e12, K12⟩ := KP_t n hn 14 300 rfl K11 (by decide) (by decide) (by decide) (by decide)
  obtain ⟨μ13, e13, K13⟩ := KP_t n hn 15 10 rfl K12 (by decide) (by decide) (by decide) (by decide)
  obtain ⟨μ14, e14, K14⟩ := KP_t n hn 19 100 rfl K13 (by decide) (by decide) (by decide) (by decide)
  obtain ⟨μ15, e15, K15⟩ := KP_t n hn 20 100 rfl K14 (by decide) (by decide) (by decide) (by decide)
  obtain ⟨μ16, e16, K16⟩ := KP_t n hn 21 24 rfl K15 (by decide) (by decide) (by decide) (by decide)
  obtain ⟨μ17, e17, K17⟩ := KP_t n hn 22 4 rfl K16 (by decide) (by decide) (by decide) (by decide)
  obtain ⟨μ18, e18, K18⟩ := KP_t n hn 23 4 rfl K17 (by decide) (by decide) (by decide) (by decide)
  obtain ⟨r19, μ19, e19, K19⟩ := KP_o n 11 K18 (by decide) (by decide) (by decide)
  obtain ⟨r20, μ20, e20, K20⟩ := KP_o n 12 K19 (by decide) (by decide) (by decide)
  obtain ⟨r21, μ21, e21, K21⟩ := KP_o n 21 K20 (by decide) (by decide) (by decide)
  obtain ⟨r22, μ22, e22, K22⟩ := KP_o n 38 K21 (by decide) (by decide) (by decide)
  obtain ⟨r23, μ23, e23, K23⟩ := KP_o n 39 K22 (by decide) (by decide) (by decide)
  obtain ⟨r24, μ24, e24, K24⟩ := KP_o n 40 K23 (by decide) (by decide) (by decide)
  obtain ⟨r25, μ25, e25, K25⟩ := KP_o n 41 K24 (by decide) (by decide) (by decide)
  obtain ⟨r26, μ26, e26, K26⟩ := KP_o n 42 K25 (by decide) (by decide) (by decide)
  obtain ⟨r27, μ27, e27, K27⟩ := KP_o n 43 K26 (by decide) (by decide) (by decide)
  obtain ⟨r28, μ28, e28, K28⟩ := KP_o n 44 K27 (by decide) (by decide) (by decide)
  obtain ⟨r29, μ29, e29, K29⟩ := KP_o n 45 K28 (by decide) (by decide) (by decide)
  obtain ⟨r30, μ30, e30, K30⟩ := KP_o n 48 K29 (by decide) (by decide) (by decide)
  obtain ⟨r31, μ31, e31, K31⟩ := KP_o n 49 K30 (by decide) (by decide) (by decide)
  obtain ⟨r32, μ32, e32, K32⟩ := KP_o n 52 K31 (by decide) (by decide) (by decide)
  exact ⟨_, sq_g (bd_g e1 (bd_g e2 (bd_g e3 (bd_g e4 (bd_g e5 (bd_g e6 (bd_g e7 (bd_g e8 (bd_g e9 (bd_g e10 (bd_g e11 (bd_g e12 (bd_g e13 (bd_g e14 (bd_g e15 (bd_g e16 (bd_g e17 (bd_g e18 (bd_g e19 (sq_g (bd_g e20 (sq_g (bd_g e21 (sq_g (bd_g e22 (sq_g (bd_g e23 (sq_g (bd_g e24 (sq_g (bd_g e25 (sq_g (bd_g e26 (sq_g (bd_g e27 (sq_g (bd_g e28 (sq_g (bd_g e29 (sq_g (bd_g e30 (sq_g (bd_g e31 (sq_g (bd_g e32 (sq_g rfl)))))))))))))))))))))))))))))))))))))))))))))), K32⟩
theorem back_all (n : Nat) (hn : 1000 ≤ n) {μ0 : MS} (h55 : μ0.1 0 55 = 0) : ∃ μ1, fm_passesAll n μ0 = some (0, μ1) ∧ RP μ0 μ1 kpL kpS 635 := by
  have K0 : RP μ0 (mp μ0 0 56 0) [] [] 0 := ⟨rfl, by rw [mp_1, if_neg (by omega)]; exact h55, by rw [mp_1, if_pos ⟨rfl, rfl⟩]; rfl, fun p hp => absurd hp List.not_mem_nil, fun p hp => absurd hp List.not_mem_nil, fun b g _ => mp_ne _ _ _ _ g, fun k hk _ => by rw [mp_1, if_neg (by omega)]⟩
  obtain ⟨μ1, e1, K1⟩ := RP_t n hn 3 7 rfl K0 (by decide) (by decide) (by decide) (by decide) (by decide) (by decide)
  obtain ⟨μ2, e2, K2⟩ := RP_t n hn 4 7 rfl K1 (by decide) (by decide) (by decide) (by decide) (by decide) (by decide)
  obtain ⟨μ3, e3, K3⟩ := RP_t n hn 5 7 rfl K2 (by decide) (by decide) (by decide) (by decide) (by decide) (by decide)
  obtain ⟨μ4, e4, K4⟩ := RP_t n hn 6 7 rfl K3 (by decide) (by decide) (by decide) (by decide) (by decide) (by decide)
  obtain ⟨μ5, e5, K5⟩ := RP_t n hn 7 7 rfl K4 (by decide) (by decide) (by decide) (by decide) (by decide) (by decide)
  obtain ⟨μ6, e6, K6⟩ := RP_t n hn 8 4 rfl K5 (by decide) (by decide) (by decide) (by decide) (by decide) (by decide)
  obtain ⟨μ7, e7, K7⟩ := RP_t n hn 9 4 rfl K6 (by decide) (by decide) (by decide) (by decide) (by decide) (by decide)
  obtain ⟨μ8, e8, K8⟩ := RP_t n hn 10 9 rfl K7 (by decide) (by decide) (by decide) (by decide) (by decide) (by decide)
  obtain ⟨μ9, e9, K9⟩ := RP_t n hn 11 9 rfl K8 (by decide) (by decide) (by decide) (by decide) (by decide) (by decide)
  obtain ⟨μ10, e10, K10⟩ := RP_t n hn 12 9 rfl K9 (by decide) (by decide) (by decide) (by decide) (by decide) (by decide)
  obtain ⟨μ11, e11, K11⟩ := RP_t n hn 13 9 rfl K10 (by decide) (by decide) (by decide) (by decide) (by decide) (by decide)
  obtain ⟨μ12, e12, K12⟩ := RP_t n hn 14 300 rfl K11 (by decide) (by decide) (by decide) (by decide) (by decide) (by decide)
  obtain ⟨μ13, e13, K13⟩ := RP_t n hn 15 10 rfl K12 (by decide) (by decide) (by decide) (by decide) (by decide) (by decide)
  obtain ⟨μ14, e14, K14⟩ := RP_t n hn 19 100 rfl K13 (by decide) (by decide) (by decide) (by decide) (by decide) (by decide)
  obtain ⟨μ15, e15, K15⟩ := RP_t n hn 20 100 rfl K14 (by decide) (by decide) (by decide) (by decide) (by decide) (by decide)
  obtain ⟨μ16, e16, K16⟩ := RP_t n hn 21 24 rfl K15 (by decide) (by decide) (by decide) (by decide) (by decide) (by decide)
  obtain ⟨μ17, e17, K17⟩ := RP_t n hn 22 4 rfl K16 (by decide) (by decide) (by decide) (by decide) (by decide) (by decide)
  obtain ⟨μ18, e18, K18⟩ := RP_t n hn 23 4 rfl K17 (by decide) (by decide) (by decide) (by decide) (by decide) (by decide)
  obtain ⟨r19, μ19, e19, K19⟩ := RP_o n 11 K18 (by decide) (by decide) (by decide) (by decide) (by decide)
  obtain ⟨r20, μ20, e20, K20⟩ := RP_o n 12 K19 (by decide) (by decide) (by decide) (by decide) (by decide)
  obtain ⟨r21, μ21, e21, K21⟩ := RP_o n 21 K20 (by decide) (by decide) (by decide) (by decide) (by decide)
  obtain ⟨r22, μ22, e22, K22⟩ := RP_o n 38 K21 (by decide) (by decide) (by decide) (by decide) (by decide)
  obtain ⟨r23, μ23, e23, K23⟩ := RP_o n 39 K22 (by decide) (by decide) (by decide) (by decide) (by decide)
  obtain ⟨r24, μ24, e24, K24⟩ := RP_o n 40 K23 (by decide) (by decide) (by decide) (by decide) (by decide)
  obtain ⟨r25, μ25, e25, K25⟩ := RP_o n 41 K24 (by decide) (by decide) (by decide) (by decide) (by decide)
  obtain ⟨r26, μ26, e26, K26⟩ := RP_o n 42 K25 (by decide) (by decide) (by decide) (by decide) (by decide)
  obtain ⟨r27, μ27, e27, K27⟩ := RP_o n 43 K26 (by decide) (by decide) (by decide) (by decide) (by decide)
  obtain ⟨r28, μ28, e28, K28⟩ := RP_o n 44 K27 (by decide) (by decide) (by decide) (by decide) (by decide)
  obtain ⟨r29, μ29, e29, K29⟩ := RP_o n 45 K28 (by decide) (by decide) (by decide) (by decide) (by decide)
  obtain ⟨r30, μ30, e30, K30⟩ := RP_o n 48 K29 (by decide) (by decide) (by decide) (by decide) (by decide)
  obtain ⟨r31, μ31, e31, K31⟩ := RP_o n 49 K30 (by decide) (by decide) (by decide) (by decide) (by decide)
  obtain ⟨r32, μ32, e32, K32⟩ := RP_o n 52 K31 (by decide) (by decide) (by decide) (by decide) (by decide)
  exact ⟨_, sq_g (bd_g e1 (bd_g e2 (bd_g e3 (bd_g e4 (bd_g e5 (bd_g e6 (bd_g e7 (bd_g e8 (bd_g e9 (bd_g e10 (bd_g e11 (bd_g e12 (bd_g e13 (bd_g e14 (bd_g e15 (bd_g e16 (bd_g e17 (bd_g e18 (bd_g e19 (sq_g (bd_g e20 (sq_g (bd_g e21 (sq_g (bd_g e22 (sq_g (bd_g e23 (sq_g (bd_g e24 (sq_g (bd_g e25 (sq_g (bd_g e26 (sq_g (bd_g e27 (sq_g (bd_g e28 (sq_g (bd_g e29 (sq_g (bd_g e30 (sq_g (bd_g e31 (sq_g (bd_g e32 (sq_g rfl)))))))))))))))))))))))))))))))))))))))))))))), K32⟩
end
