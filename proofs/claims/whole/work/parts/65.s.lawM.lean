section
/-! A LAW in the reference: tokens, pending signs, the loop's steps -/
theorem gd_l (T U : List Int32) {k : Nat} (h : k < T.length) : (T ++ U).getD k 0 = T.getD k 0 := by
  simp [List.getD, List.getElem?_append_left h]
theorem gd_e (T : List Int32) (c : Int32) : (T ++ [c]).getD T.length 0 = c := by
  simp [List.getD]
def LM (μ : MS) (L : Nat) (B : Nat → Nat) (p t0 : Nat) (T S : List Int32) (d : Nat) : Prop := TM μ L B p ∧ (μ.1 0 22 = nI (t0 + T.length) ∧ ∀ k, k < T.length → tkc (μ.1 14 (t0 + k)) (T.getD k 0)) ∧ (μ.1 0 23 = nI S.length ∧ ∀ k, k < S.length → μ.1 16 k = S.getD k 0) ∧ μ.1 0 24 = nI d
/-- what reading may change in the reference -/
def LX (t0 : Nat) (μ μ1 : MS) : Prop := μ1.2 = μ.2 ∧ (∀ a, a ≠ 0 → a ≠ 14 → a ≠ 16 → μ1.1 a = μ.1 a) ∧ (∀ k, k ≠ 10 → k ≠ 22 → k ≠ 23 → k ≠ 24 → μ1.1 0 k = μ.1 0 k) ∧ ∀ k, k < t0 → μ1.1 14 k = μ.1 14 k
theorem LX.rf (t0 : Nat) (μ : MS) : LX t0 μ μ := ⟨rfl, fun _ _ _ _ => rfl, fun _ _ _ _ _ => rfl, fun _ _ => rfl⟩
theorem LX.tr {t0 : Nat} {a b c : MS} (h : LX t0 a b) (g : LX t0 b c) : LX t0 a c := ⟨g.1.trans h.1, fun x p q r => (g.2.1 x p q r).trans (h.2.1 x p q r), fun k p q r s => (g.2.2.1 k p q r s).trans (h.2.2.1 k p q r s), fun k hk => (g.2.2.2 k hk).trans (h.2.2.2 k hk)⟩
theorem LX_MP {t0 : Nat} {a b : MS} (h : MP a b) : LX t0 a b := ⟨h.1, fun x p _ _ => h.2.1 x p, fun k p _ _ _ => h.2.2 k p, fun k _ => by rw [h.2.1 14 (by decide)]⟩
theorem LX_0 {t0 : Nat} (μ : MS) {k : Nat} (hk : k = 10 ∨ k = 22 ∨ k = 23 ∨ k = 24) (v : Int32) : LX t0 μ (mp μ 0 k v) := ⟨rfl, fun x p _ _ => mp_ne _ _ _ _ p, fun j p q r s => by rw [mp_1, if_neg (by omega)], fun j _ => by rw [mp_ne _ _ _ _ (by decide)]⟩
theorem LX_16 {t0 : Nat} (μ : MS) (k : Nat) (v : Int32) : LX t0 μ (mp μ 16 k v) := ⟨rfl, fun x _ _ r => mp_ne _ _ _ _ r, fun j _ _ _ _ => by rw [mp_ne _ _ _ _ (by decide)], fun j _ => by rw [mp_ne _ _ _ _ (by decide)]⟩
theorem LX_14 {t0 : Nat} (μ : MS) {k : Nat} (hk : t0 ≤ k) (v : Int32) : LX t0 μ (mp μ 14 k v) := ⟨rfl, fun x _ q _ => mp_ne _ _ _ _ q, fun j _ _ _ _ => by rw [mp_ne _ _ _ _ (by decide)], fun j _ => by rw [mp_1, if_neg (by omega)]⟩
section
variable {μ : MS} {L : Nat} {B : Nat → Nat} {p t0 d : Nat} {T S : List Int32}
theorem LM_at (H : LM μ L B p t0 T S d) {q : Nat} (hq : q ≤ L) : LM (mp μ 0 10 (nI q)) L B q t0 T S d := by
  obtain ⟨h1, h2, h3, h4⟩ := H
  refine ⟨TM_at h1 hq, ?_, ?_, ?_⟩
  · rw [mp_1, if_neg (by omega), mp_ne _ _ _ _ (by decide)]; exact h2
  · rw [mp_1, if_neg (by omega), mp_ne _ _ _ _ (by decide)]; exact h3
  · rw [mp_1, if_neg (by omega)]; exact h4
theorem LM_MP (H : LM μ L B p t0 T S d) {μ1 : MS} (hM : MP μ μ1) {q : Nat} (hq : TM μ1 L B q) : LM μ1 L B q t0 T S d := by
  obtain ⟨h1, h2, h3, h4⟩ := H
  refine ⟨hq, ?_, ?_, ?_⟩
  · rw [hM.2.2 22 (by decide), hM.2.1 14 (by decide)]; exact h2
  · rw [hM.2.2 23 (by decide), hM.2.1 16 (by decide)]; exact h3
  · rw [hM.2.2 24 (by decide)]; exact h4
theorem LM_push (H : LM μ L B p t0 T S d) (s : Int32) : LM (mp (mp μ 16 S.length s) 0 23 (nI (S.length + 1))) L B p t0 T (S ++ [s]) d := by
  obtain ⟨⟨h0, h1, h1', h1''⟩, h2, h3, h4⟩ := H
  have e0 : ∀ k, k ≠ 23 → (mp (mp μ 16 S.length s) 0 23 (nI (S.length + 1))).1 0 k = μ.1 0 k := fun k hk => by rw [mp_1, if_neg (by omega), mp_ne _ _ _ _ (by decide)]
  have eA : ∀ a, a ≠ 0 → a ≠ 16 → (mp (mp μ 16 S.length s) 0 23 (nI (S.length + 1))).1 a = μ.1 a := fun a x y => by rw [mp_ne _ _ _ _ x, mp_ne _ _ _ _ y]
  refine ⟨⟨h0, by rw [e0 9 (by decide)]; exact h1, by rw [e0 10 (by decide)]; exact h1', by rw [eA 2 (by decide) (by decide)]; exact h1''⟩, by rw [e0 22 (by decide), eA 14 (by decide) (by decide)]; exact h2, ⟨by rw [mp_1, if_pos ⟨rfl, rfl⟩, List.length_append]; rfl, fun k hk => ?_⟩, by rw [e0 24 (by decide)]; exact h4⟩
  rw [mp_ne _ _ _ _ (by decide), mp_1]
  rw [List.length_append] at hk
  have hk : k < S.length + 1 := hk
  by_cases e : k = S.length
  · rw [if_pos ⟨rfl, e⟩, e, gd_e]
  · rw [if_neg (fun h => e h.2), gd_l S [s] (by omega)]; exact h3.2 k (by omega)
theorem LM_pop {s : Int32} (H : LM μ L B p t0 T (S ++ [s]) d) : LM (mp μ 0 23 (nI S.length)) L B p t0 T S d := by
  obtain ⟨⟨h0, h1, h1', h1''⟩, h2, h3, h4⟩ := H
  have e0 : ∀ k, k ≠ 23 → (mp μ 0 23 (nI S.length)).1 0 k = μ.1 0 k := fun k hk => by rw [mp_1, if_neg (by omega)]
  have eA : ∀ a, a ≠ 0 → (mp μ 0 23 (nI S.length)).1 a = μ.1 a := fun a x => mp_ne _ _ _ _ x
  refine ⟨⟨h0, by rw [e0 9 (by decide)]; exact h1, by rw [e0 10 (by decide)]; exact h1', by rw [eA 2 (by decide)]; exact h1''⟩, by rw [e0 22 (by decide), eA 14 (by decide)]; exact h2, ⟨by rw [mp_1, if_pos ⟨rfl, rfl⟩], fun k hk => ?_⟩, by rw [e0 24 (by decide)]; exact h4⟩
  rw [eA 16 (by decide), h3.2 k (by rw [List.length_append]; exact Nat.lt_succ_of_lt hk), gd_l S [s] hk]
theorem LM_deep (H : LM μ L B p t0 T S d) (e : Nat) : LM (mp μ 0 24 (nI e)) L B p t0 T S e := by
  obtain ⟨⟨h0, h1, h1', h1''⟩, h2, h3, h4⟩ := H
  have e0 : ∀ k, k ≠ 24 → (mp μ 0 24 (nI e)).1 0 k = μ.1 0 k := fun k hk => by rw [mp_1, if_neg (by omega)]
  have eA : ∀ a, a ≠ 0 → (mp μ 0 24 (nI e)).1 a = μ.1 a := fun a x => mp_ne _ _ _ _ x
  exact ⟨⟨h0, by rw [e0 9 (by decide)]; exact h1, by rw [e0 10 (by decide)]; exact h1', by rw [eA 2 (by decide)]; exact h1''⟩, by rw [e0 22 (by decide), eA 14 (by decide)]; exact h2, by rw [e0 23 (by decide), eA 16 (by decide)]; exact h3, by rw [mp_1, if_pos ⟨rfl, rfl⟩]⟩
theorem m_emit (n : Nat) (H : LM μ L B p t0 T S d) (hb : t0 + T.length < 300) {t c : Int32} (h : tkc t c) : ∃ μ1, fm_emits n μ t = some (0, μ1) ∧ LM μ1 L B p t0 (T ++ [c]) S d ∧ LX t0 μ μ1 := by
  obtain ⟨⟨h0, h1, h1', h1''⟩, h2, h3, h4⟩ := H
  have e0 : ∀ k, k ≠ 22 → (mp (mp μ 14 (t0 + T.length) t) 0 22 (nI (t0 + T.length + 1))).1 0 k = μ.1 0 k := fun k hk => by rw [mp_1, if_neg (by omega), mp_ne _ _ _ _ (by decide)]
  have eA : ∀ a, a ≠ 0 → a ≠ 14 → (mp (mp μ 14 (t0 + T.length) t) 0 22 (nI (t0 + T.length + 1))).1 a = μ.1 a := fun a x y => by rw [mp_ne _ _ _ _ x, mp_ne _ _ _ _ y]
  refine ⟨mp (mp μ 14 (t0 + T.length) t) 0 22 (nI (t0 + T.length + 1)), ?_, ⟨⟨h0, by rw [e0 9 (by decide)]; exact h1, by rw [e0 10 (by decide)]; exact h1', by rw [eA 2 (by decide) (by decide)]; exact h1''⟩, ⟨by rw [mp_1, if_pos ⟨rfl, rfl⟩, List.length_append]; rfl, fun k hk => ?_⟩, by rw [e0 23 (by decide), eA 16 (by decide) (by decide)]; exact h3, by rw [e0 24 (by decide)]; exact h4⟩, (LX_14 μ (Nat.le_add_right _ _) t).tr (LX_0 _ (by omega) _)⟩
  · unfold fm_emits
    exact ck_g (by rw [h2.1]; exact ib_nI hb (by omega)) (sq_r (x1 := mp μ 14 (t0 + T.length) t) (by rw [h2.1, nI_clamp (by omega)]) (sq_r (x1 := mp (mp μ 14 (t0 + T.length) t) 0 22 (nI (t0 + T.length + 1))) (by rw [mp_ne _ _ _ _ (by decide), h2.1, nI_1]) rfl))
  · rw [mp_ne _ _ _ _ (by decide), mp_1]
    rw [List.length_append] at hk
    have hk : k < T.length + 1 := hk
    by_cases e : k = T.length
    · rw [if_pos ⟨rfl, by omega⟩, e, gd_e]; exact h
    · rw [if_neg (by omega), gd_l T [c] (by omega)]; exact h2.2 k (by omega)
end
/-! signs and their strength -/
def isop (s : Int32) : Prop := s = 43 ∨ s = 45 ∨ s = 42 ∨ s = 47
def stn (s : Int32) : Nat := if s = 43 then 1 else if s = 45 then 1 else if s = 42 then 2 else if s = 47 then 2 else 0
theorem m_strength (n : Nat) (μ : MS) (s : Int32) : fm_strength n μ s = some (nI (stn s), μ) := by
  unfold fm_strength stn
  by_cases h1 : s = 43
  · rw [if_pos h1, if_pos h1]; rfl
  rw [if_neg h1, if_neg h1]
  by_cases h2 : s = 45
  · rw [if_pos h2, if_pos h2]; rfl
  rw [if_neg h2, if_neg h2]
  by_cases h3 : s = 42
  · rw [if_pos h3, if_pos h3]; rfl
  rw [if_neg h3, if_neg h3]
  by_cases h4 : s = 47
  · rw [if_pos h4, if_pos h4]; rfl
  rw [if_neg h4, if_neg h4]; rfl
theorem stn_op {s : Int32} (h : isop s) : 1 ≤ stn s ∧ stn s ≤ 2 := by
  rcases h with rfl | rfl | rfl | rfl <;> decide
theorem stn_le (s : Int32) : stn s ≤ 2 := by
  unfold stn
  split
  · omega
  split
  · omega
  split
  · omega
  split <;> omega
theorem stn_no {s : Int32} (h : ¬ isop s) : stn s = 0 := by
  unfold stn isop at *
  rw [if_neg (fun e => h (Or.inl e)), if_neg (fun e => h (Or.inr (Or.inl e))), if_neg (fun e => h (Or.inr (Or.inr (Or.inl e)))), if_neg (fun e => h (Or.inr (Or.inr (Or.inr e))))]
theorem op_40 {s : Int32} (h : isop s) : ¬ s = 40 := by
  rcases h with rfl | rfl | rfl | rfl <;> decide
theorem op_41 {s : Int32} (h : isop s) : ¬ s = 41 := by
  rcases h with rfl | rfl | rfl | rfl <;> decide
theorem op_tk {s : Int32} (h : isop s) : tkc s (-s) := by
  unfold tkc
  rcases h with rfl | rfl | rfl | rfl <;> decide
/-- where pending signs stay -/
def stp (S : List Int32) (st : Nat) : Prop := S = [] ∨ ∃ S0 s, S = S0 ++ [s] ∧ (s = 40 ∨ (isop s ∧ stn s < st))
theorem stp_2 {S : List Int32} (h : stp S 1) : stp S 2 := by
  rcases h with h | ⟨S0, s, h1, h2⟩
  · exact Or.inl h
  · exact Or.inr ⟨S0, s, h1, h2.elim Or.inl (fun h => Or.inr ⟨h.1, by omega⟩)⟩
theorem stp_1 {S : List Int32} (h : stp S 1) : S = [] ∨ ∃ S0, S = S0 ++ [40] := by
  rcases h with h | ⟨S0, s, h1, h2⟩
  · exact Or.inl h
  · rcases h2 with rfl | h2
    · exact Or.inr ⟨S0, h1⟩
    · have := stn_op h2.1; omega
theorem stp_0 {S : List Int32} (h : stp S 1) : stp S 0 := by
  rcases stp_1 h with h | ⟨S0, h⟩
  · exact Or.inl h
  · exact Or.inr ⟨S0, 40, h, Or.inl rfl⟩
def ngs (R : List Int32) : List Int32 := R.map (fun s => -s)
theorem m_settle (n : Nat) {L : Nat} {B : Nat → Nat} {p t0 d st : Nat} {S : List Int32} (hst : stp S st) (h2 : st ≤ 2) : ∀ (R : List Int32) (k : Nat) (μ : MS) (T : List Int32), R.length < k → (∀ s ∈ R, isop s ∧ st ≤ stn s) → LM μ L B p t0 T (S ++ R.reverse) d → t0 + T.length + R.length < 300 → S.length + R.length ≤ 24 → ∃ μ1, lm_settles_0 n k μ (nI st) = some (0, μ1) ∧ LM μ1 L B p t0 (T ++ ngs R) S d ∧ LX t0 μ μ1 := by
  intro R
  induction R with
  | nil =>
    intro k μ T hk hR H hb hS
    obtain ⟨k, rfl⟩ : ∃ k', k = k' + 1 := ⟨k - 1, by omega⟩
    have H : LM μ L B p t0 T S d := by simpa using H
    refine ⟨μ, ?_, by simpa [ngs] using H, LX.rf _ _⟩
    show bm_settles_0 n (lm_settles_0 n k) μ (nI st) = _
    unfold bm_settles_0
    rcases hst with rfl | ⟨S0, s, rfl, hs⟩
    · exact if_t (by rw [H.2.2.1.1]; decide) rfl
    · have hl : (S0 ++ [s]).length = S0.length + 1 := by simp
      rw [hl] at hS
      have hS : S0.length + 1 ≤ 24 := hS
      have e1 : μ.1 0 23 = nI (S0.length + 1) := by rw [H.2.2.1.1, hl]
      have e2 : μ.1 0 23 - 1 = nI S0.length := by rw [e1, nI_sub1]
      have e3 : μ.1 16 S0.length = s := by rw [H.2.2.1.2 S0.length (by rw [hl]; omega), gd_e]
      have ec : Int32.toNatClampNeg (nI S0.length) = S0.length := nI_clamp (by omega)
      refine if_f (by rw [e1]; exact nI_nle (by omega) (by omega)) (ck_g (by rw [e2]; exact ib_nI (by omega) (by omega)) (sq_r (x1 := s) (by rw [e2, ec, e3]) ?_))
      by_cases h40 : s = 40
      · exact if_t h40 rfl
      · obtain ⟨hs1, hs2⟩ := hs.resolve_left h40
        exact if_f h40 (ck_g (by rw [e2]; exact ib_nI (by omega) (by omega)) (sq_r (x1 := s) (by rw [e2, ec, e3]) (bd_g (m_strength n μ s) (if_t (nI_lt hs2 (by omega)) rfl))))
  | cons s R ih =>
    intro k μ T hk hR H hb hS
    obtain ⟨k, rfl⟩ : ∃ k', k = k' + 1 := ⟨k - 1, by omega⟩
    have H : LM μ L B p t0 T ((S ++ R.reverse) ++ [s]) d := by simpa using H
    have hl : ((S ++ R.reverse) ++ [s]).length = (S ++ R.reverse).length + 1 := by rw [List.length_append]; rfl
    have hl2 : (S ++ R.reverse).length = S.length + R.length := by simp
    rw [List.length_cons] at hk hb hS
    obtain ⟨hs1, hs2⟩ := hR s List.mem_cons_self
    have hsl := stn_le s
    have e1 : μ.1 0 23 = nI ((S ++ R.reverse).length + 1) := by rw [H.2.2.1.1, hl]
    have e2 : μ.1 0 23 - 1 = nI (S ++ R.reverse).length := by rw [e1, nI_sub1]
    have e3 : μ.1 16 (S ++ R.reverse).length = s := by rw [H.2.2.1.2 (S ++ R.reverse).length (by rw [hl]; omega), gd_e]
    have ec : Int32.toNatClampNeg (nI (S ++ R.reverse).length) = (S ++ R.reverse).length := nI_clamp (by omega)
    have H1 := LM_pop H
    obtain ⟨μ1, r1, r2, r3⟩ := m_emit n H1 (by omega) (op_tk hs1)
    obtain ⟨μ2, s1, s2, s3⟩ := ih k μ1 (T ++ [-s]) (by omega) (fun x hx => hR x (List.mem_cons_of_mem _ hx)) r2 (by rw [List.length_append]; show t0 + (T.length + 1) + R.length < 300; omega) (by omega)
    refine ⟨μ2, ?_, by simpa [ngs] using s2, ((LX_0 μ (by omega) _).tr r3).tr s3⟩
    show bm_settles_0 n (lm_settles_0 n k) μ (nI st) = _
    unfold bm_settles_0
    exact if_f (by rw [e1]; exact nI_nle (by omega) (by omega)) (ck_g (by rw [e2]; exact ib_nI (by omega) (by omega)) (sq_r (x1 := s) (by rw [e2, ec, e3]) (if_f (op_40 hs1) (ck_g (by rw [e2]; exact ib_nI (by omega) (by omega)) (sq_r (x1 := s) (by rw [e2, ec, e3]) (bd_g (m_strength n μ s) (if_f (nI_nlt hs2 (by omega)) (sq_r (x1 := mp μ 0 23 (nI (S ++ R.reverse).length)) (by rw [e2]) (ck_g (by rw [H1.2.2.1.1]; exact ib_nI (by omega) (by omega)) (sq_r (x1 := s) (by rw [H1.2.2.1.1, ec, mp_ne _ _ _ _ (by decide), e3]) (bd_g r1 s1)))))))))))
end
