section
/-! A LAW in the class: codes written, fields looked up -/
def TCL (γ : CS) (L : Nat) (B : Nat → Nat) (p : Nat) (C : List Int32) : Prop := TC γ L B p ∧ γ.1 1 5 = nI C.length ∧ ∀ k, k < C.length → γ.1 3 k = C.getD k 0
section
variable {γ : CS} {L : Nat} {B : Nat → Nat} {p : Nat} {C : List Int32}
theorem TCL_at (H : TCL γ L B p C) {q : Nat} (hq : q ≤ L) : TCL (cp γ 1 4 (nI q)) L B q C := ⟨TC_at H.1 hq, by rw [cp_1, if_neg (by omega)]; exact H.2.1, by rw [cp_ne _ _ _ _ (by decide)]; exact H.2.2⟩
theorem TCL_TP (H : TCL γ L B p C) {γ1 : CS} (hP : TP γ γ1) {q : Nat} (hq : TC γ1 L B q) : TCL γ1 L B q C := ⟨hq, by rw [hP.2.2 5 (by decide)]; exact H.2.1, by rw [hP.2.1 3 (by decide)]; exact H.2.2⟩
theorem c_write (n : Nat) (H : TCL γ L B p C) (hc : C.length < 20) (x : Int32) : ∃ γ1, fc_X6_write n γ x = some (0, γ1) ∧ yTX γ γ1 ∧ TCL γ1 L B p (C ++ [x]) := by
  obtain ⟨⟨t0, t1, t2, t3, t4⟩, h2, h3⟩ := H
  refine ⟨cp (cp γ 3 C.length x) 1 5 (nI (C.length + 1)), ?_, (TX_c3 γ _ _).tr (TX_cp _ (by decide) _), ⟨t0, ?_, ?_, ?_, ?_⟩, ?_, fun k hk => ?_⟩
  · unfold fc_X6_write
    exact if_f (by rw [h2]; exact nI_pos (by omega)) (if_f (by rw [h2]; exact nI_ge (b := 20) (by omega) (by omega)) (ck_g (by rw [h2]; exact ib_nI (by omega) (by omega)) (sq_r (x1 := cp γ 3 C.length x) (by rw [h2, nI_clamp (by omega)]) (sq_r (x1 := cp (cp γ 3 C.length x) 1 5 (nI (C.length + 1))) (by rw [cp_ne _ _ _ _ (by decide), h2, nI_1]) rfl))))
  · rw [cp_1, if_neg (by omega), cp_ne _ _ _ _ (by decide)]; exact t1
  · rw [cp_1, if_neg (by omega), cp_ne _ _ _ _ (by decide)]; exact t2
  · rw [cp_1, if_neg (by omega), cp_ne _ _ _ _ (by decide)]; exact t3
  · rw [cp_ne _ _ _ _ (by decide), cp_ne _ _ _ _ (by decide)]; exact t4
  · rw [cp_1, if_pos ⟨rfl, rfl⟩, List.length_append]; rfl
  · rw [cp_ne _ _ _ _ (by decide), cp_1]
    rw [List.length_append] at hk
    have hk : k < C.length + 1 := hk
    by_cases e : k = C.length
    · rw [if_pos ⟨rfl, e⟩, e, gd_e]
    · rw [if_neg (fun h => e h.2), gd_l C [x] (by omega)]; exact h3 k (by omega)
theorem c_write_f (n : Nat) (γ : CS) (x : Int32) : ∃ γ1, fc_X6_write n γ x = some (0, γ1) ∧ yTX γ γ1 ∧ γ1.1 1 3 = γ.1 1 3 := by
  unfold fc_X6_write
  by_cases h1 : γ.1 1 5 < 0
  · exact ⟨γ, if_t h1 rfl, yTX.rf γ, rfl⟩
  by_cases h2 : Int32.ofNat 20 ≤ γ.1 1 5
  · exact ⟨γ, if_f h1 (if_t h2 rfl), yTX.rf γ, rfl⟩
  obtain ⟨c, hc, e⟩ := nI_of h1
  have hc2 : c < 20 := by
    by_cases h : c < 20
    · exact h
    · exact absurd (by rw [e]; exact nI_le (a := 20) (by omega) hc) h2
  refine ⟨_, if_f h1 (if_f h2 (ck_g (by rw [e]; exact ib_nI hc2 (by omega)) (sq_g (sq_g rfl)))), (TX_c3 γ _ _).tr (TX_cp _ (by decide) _), ?_⟩
  rw [cp_1, if_neg (by omega), cp_ne _ _ _ _ (by decide)]
end
/-! the fields' names -/
def fnm (b : Nat) : Option Nat := if b = 108 then some 0 else if b = 116 then some 1 else if b = 119 then some 2 else if b = 100 then some 3 else if b = 101 then some 4 else if b = 98 then some 5 else if b = 102 then some 6 else if b = 107 then some 7 else none
def fnI (b : Nat) : Int32 := match fnm b with
  | some i => nI i
  | none => -1
/-- the loop over the names, alone -/
def ixl : Nat → Int32 → Nat → Int32
  | 0, _, _ => -1
  | k + 1, y, i => if 8 ≤ i then -1 else if (ztx.getD 0 []).getD i 0 = y then nI i else ixl k y (i + 1)
theorem ix_loop (n : Nat) (σ : CS) (y : Int32) : ∀ (k i : Nat), i ≤ 8 → 8 < k + i → lc_J1_indexOfChar_4cfef_7 n k σ 8 y (nI i) = some (ixl k y i, σ) := by
  intro k
  induction k with
  | zero => intro i h1 h2; omega
  | succ k ih =>
    intro i h1 h2
    show bc_J1_indexOfChar_4cfef_7 n (lc_J1_indexOfChar_4cfef_7 n k) σ 8 y (nI i) = _
    unfold bc_J1_indexOfChar_4cfef_7 ixl
    by_cases h8 : 8 ≤ i
    · rw [if_pos h8]
      exact if_t (nI_le (a := 8) h8 (by omega)) rfl
    · rw [if_neg h8]
      refine if_f (nI_ge (b := 8) (by omega) (by omega)) (ck_g (ib_nI (by omega) (by omega)) (sq_r (x1 := (ztx.getD 0 []).getD i 0) (by rw [nI_clamp (by omega)]) ?_))
      by_cases e : (ztx.getD 0 []).getD i 0 = y
      · rw [if_pos e, if_pos e]
      · rw [if_neg e, if_neg e]; exact sq_r (nI_1 i) (ih (i + 1) (by omega) (by omega))
theorem ixl_more (y : Int32) : ∀ (k i m : Nat), i ≤ 8 → 8 < k + i → ixl (k + m) y i = ixl k y i := by
  intro k
  induction k with
  | zero => intro i m h1 h2; omega
  | succ k ih =>
    intro i m h1 h2
    rw [show k + 1 + m = (k + m) + 1 by omega]
    unfold ixl
    by_cases h8 : 8 ≤ i
    · rw [if_pos h8, if_pos h8]
    · rw [if_neg h8, if_neg h8, ih (i + 1) m (by omega) (by omega)]
theorem ix_conv : ∀ b, b < 256 → (Int32.toUInt32 (nI b) % 65536).toInt32 = nI b := by decide +kernel
theorem ix_val : ∀ b, b < 256 → ixl 9 (Int32.toInt8 (nI b)).toInt32 0 = fnI b := by decide +kernel
theorem c_len (n : Nat) (σ : CS) : fc_J0_length_8abf5 n σ = some (8, σ) := by
  unfold fc_J0_length_8abf5
  refine bd_g (a := 0) (b := σ) ?_ (by
    have : (8 : Int32) >>> ((0 : Int32) &&& 31) = 8 := by decide
    rw [this])
  unfold fc_J0_coder_7d493
  exact if_f one_ne rfl
theorem c_index (n : Nat) (hn : 10 ≤ n) (σ : CS) {b : Nat} (hb : b ≤ 255) : fc_J0_indexOf_0f7a4 n σ ((Int32.toUInt32 (nI b) % 65536).toInt32) = some (fnI b, σ) := by
  rw [ix_conv b (by omega)]
  unfold fc_J0_indexOf_0f7a4
  refine bd_g (a := fnI b) (b := σ) ?_ rfl
  unfold fc_J0_indexOf_7cf53
  refine bd_g (a := 1) (b := σ) rfl (if_f one_ne (bd_g (a := 8) (b := σ) (c_len n σ) (bd_g (a := fnI b) (b := σ) ?_ rfl)))
  unfold fc_J1_indexOf_4cfef
  refine bd_g (a := 1) (b := σ) ?_ (if_f one_ne (sq_r (x1 := 0) (by decide) (sq_r (x1 := 8) (by decide) (if_t (by decide) (bd_g (a := fnI b) (b := σ) ?_ rfl)))))
  · unfold fc_J1_canEncode_9a6ad
    exact if_f (nI_pos (by omega)) (if_f (nI_nlt (a := 255) hb (by omega)) rfl)
  · unfold fc_J1_indexOfChar_4cfef
    refine sq_g ?_
    have h := ix_loop n σ (Int32.toInt8 (nI b)).toInt32 n 0 (by omega) (by omega)
    rw [show n = 9 + (n - 9) by omega, ixl_more _ 9 0 (n - 9) (by omega) (by omega), ix_val b (by omega), ← show n = 9 + (n - 9) by omega] at h
    exact h
theorem fn_tk {b i : Nat} (h : fnm b = some i) : tkc (nI b) (1000 + nI i) ∧ (nI b = 108 ∨ nI b = 116 ∨ nI b = 119 ∨ nI b = 100 ∨ nI b = 101 ∨ nI b = 98 ∨ nI b = 102 ∨ nI b = 107) ∧ i < 8 ∧ fnI b = nI i ∧ b ≠ 40 ∧ ¬ (48 ≤ b ∧ b ≤ 57) := by
  have e : fnI b = nI i := by unfold fnI; rw [h]
  refine ⟨?_, ?_, ?_, e, ?_, ?_⟩
  all_goals
    unfold fnm at h
    by_cases c1 : b = 108
    · subst c1; cases h; first | decide | (unfold tkc; decide)
    rw [if_neg c1] at h
    by_cases c2 : b = 116
    · subst c2; cases h; first | decide | (unfold tkc; decide)
    rw [if_neg c2] at h
    by_cases c3 : b = 119
    · subst c3; cases h; first | decide | (unfold tkc; decide)
    rw [if_neg c3] at h
    by_cases c4 : b = 100
    · subst c4; cases h; first | decide | (unfold tkc; decide)
    rw [if_neg c4] at h
    by_cases c5 : b = 101
    · subst c5; cases h; first | decide | (unfold tkc; decide)
    rw [if_neg c5] at h
    by_cases c6 : b = 98
    · subst c6; cases h; first | decide | (unfold tkc; decide)
    rw [if_neg c6] at h
    by_cases c7 : b = 102
    · subst c7; cases h; first | decide | (unfold tkc; decide)
    rw [if_neg c7] at h
    by_cases c8 : b = 107
    · subst c8; cases h; first | decide | (unfold tkc; decide)
    rw [if_neg c8] at h
    cases h
theorem fn_no {b : Nat} (hb : b ≤ 255) (h : fnm b = none) : fnI b = -1 ∧ ¬ (nI b = 108 ∨ nI b = 116 ∨ nI b = 119 ∨ nI b = 100 ∨ nI b = 101 ∨ nI b = 98 ∨ nI b = 102 ∨ nI b = 107) := by
  have e : fnI b = -1 := by unfold fnI; rw [h]
  have all : ∀ b, b < 256 → fnm b = none → ¬ (nI b = 108 ∨ nI b = 116 ∨ nI b = 119 ∨ nI b = 100 ∨ nI b = 101 ∨ nI b = 98 ∨ nI b = 102 ∨ nI b = 107) := by decide +kernel
  exact ⟨e, all b (by omega) h⟩
/-! how deep the stack will be -/
theorem dp_app : ∀ (xs ys : List Int32) (a : Nat), dp (xs ++ ys) a = (dp xs a).bind (dp ys) := by
  intro xs
  induction xs with
  | nil => intro ys a; rfl
  | cons c xs ih =>
    intro ys a
    show dp (c :: (xs ++ ys)) a = _
    unfold dp
    by_cases h : 0 ≤ c
    · rw [if_pos h, if_pos h]
      by_cases h2 : a < 20
      · rw [if_pos h2, if_pos h2, ih]
      · rw [if_neg h2, if_neg h2]; rfl
    · rw [if_neg h, if_neg h]
      by_cases h2 : 2 ≤ a
      · rw [if_pos h2, if_pos h2, ih]
      · rw [if_neg h2, if_neg h2]; rfl
theorem dp_len : ∀ (xs : List Int32) (a b : Nat), dp xs a = some b → b ≤ a + xs.length ∧ (a + xs.length) % 2 = b % 2 := by
  intro xs
  induction xs with
  | nil => intro a b h; cases h; simp
  | cons c xs ih =>
    intro a b h
    unfold dp at h
    rw [List.length_cons]
    by_cases h0 : 0 ≤ c
    · rw [if_pos h0] at h
      by_cases h2 : a < 20
      · rw [if_pos h2] at h
        have := ih _ _ h
        omega
      · rw [if_neg h2] at h; cases h
    · rw [if_neg h0] at h
      by_cases h2 : 2 ≤ a
      · rw [if_pos h2] at h
        have := ih _ _ h
        omega
      · rw [if_neg h2] at h; cases h
theorem dp_num {T : List Int32} {u : Nat} (h : dp T 0 = some u) (hu : u < 20) {c : Int32} (hc : 0 ≤ c) : dp (T ++ [c]) 0 = some (u + 1) := by
  rw [dp_app, h]
  show dp [c] u = _
  unfold dp
  rw [if_pos hc, if_pos hu]
  rfl
theorem dp_op {T : List Int32} {u : Nat} (h : dp T 0 = some (u + 2)) {s : Int32} (hs : isop s) : dp (T ++ [-s]) 0 = some (u + 1) := by
  rw [dp_app, h]
  show dp [-s] (u + 2) = _
  unfold dp
  rw [if_neg (by rcases hs with rfl | rfl | rfl | rfl <;> decide), if_pos (by omega)]
  rfl
end
