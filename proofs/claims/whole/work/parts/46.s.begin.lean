/-! a spin begins in mind, in both -/
theorem layOn_eq (n : Nat) (γ : CS) {f hh tt : Nat} (hf : f < 4) (h8 : γ.1 8 f = nI hh) (h9 : γ.1 9 f = nI tt) : fc_X2_layOn n γ (nI f) = some (0, cp (cp γ 32 6 (nI hh)) 32 7 (nI tt)) := by
  unfold fc_X2_layOn
  have ec : Int32.toNatClampNeg (nI f) = f := nI_clamp (by omega)
  have hF : fc_X7_isFloor n γ (nI f) = some (1, γ) := if_f (nI_pos (by omega)) (if_f (nI_ge (b := 4) (by omega) (by omega)) rfl)
  refine bd_g hF (if_f one_ne (ck_g (ib_nI (by omega) (by omega)) (sq_r (x1 := nI hh) (by rw [ec]; exact h8) (sq_r (x1 := cp γ 32 6 (nI hh)) rfl (ck_g (ib_nI (by omega) (by omega)) (sq_r (x1 := nI tt) (by rw [ec, cp_ne _ _ _ _ (by decide)]; exact h9) (sq_r (x1 := cp (cp γ 32 6 (nI hh)) 32 7 (nI tt)) rfl rfl)))))))
def bgA (γ : CS) (w d e t : Nat) : CS := cp (cp (cp (cp γ 32 2 (nI w)) 32 3 (nI d)) 32 4 (nI e)) 32 5 (nI t)
def bgB (γ : CS) (hh tt l d t : Nat) (air ring : Int32) : CS := cp (cp (cp (cp (cpp (cp (cp (cp (cp (cp (cp (cp (cp γ 31 10 ring) 32 6 (nI hh)) 32 7 (nI tt)) 31 5 0) 31 6 0) 31 7 (-1)) 31 8 1) 31 9 air) 31 11 none) 31 3 (nI l)) 31 4 (nI (TN l d t))) 32 0 (nI l)) 32 1 (nI (TN l d t))
theorem beg_58 (n : Nat) (γ : CS) {f hh tt l d t : Nat} {ring : Int32} (hf : f < 4) (hl : l ≤ 9000) (hd : d ≤ 99) (ht : t ≤ 9) (hr : ring = 0 ∨ ring = 1) (h8 : γ.1 8 f = nI hh) (h9 : γ.1 9 f = nI tt) (ha : γ.1 5 11 = 0 ∨ γ.1 5 11 = 1) (g3 : γ.1 32 3 = nI d) (g5 : γ.1 32 5 = nI t) : bc_X2_begin_58 n γ (nI l) (nI f) ring = some (0, bgB γ hh tt l d t (γ.1 5 11) ring) := by
  unfold bc_X2_begin_58 bc_X2_begin_61
  have hz : zb ring = true := by rcases hr with rfl | rfl <;> rfl
  have ea : ∀ (a b c d' : Int32), (cp (cp (cp (cp (cp (cp (cp γ 31 10 ring) 32 6 (nI hh)) 32 7 (nI tt)) 31 5 a) 31 6 b) 31 7 c) 31 8 d').1 5 11 = γ.1 5 11 := fun a b c d' => by
    rw [cp_ne _ _ _ _ (by decide), cp_ne _ _ _ _ (by decide), cp_ne _ _ _ _ (by decide), cp_ne _ _ _ _ (by decide), cp_ne _ _ _ _ (by decide), cp_ne _ _ _ _ (by decide), cp_ne _ _ _ _ (by decide)]
  have hz2 : zb (γ.1 5 11) = true := by rcases ha with e | e <;> rw [e] <;> rfl
  refine ck_g hz (sq_g (bd_g (layOn_eq n (cp γ 31 10 ring) hf (by rw [cp_ne _ _ _ _ (by decide)]; exact h8) (by rw [cp_ne _ _ _ _ (by decide)]; exact h9)) ?_))
  refine sq_g (sq_g (sq_g (sq_g (ck_g (by rw [ea]; exact hz2) (sq_r (x1 := cp (cp (cp (cp (cp (cp (cp (cp γ 31 10 ring) 32 6 (nI hh)) 32 7 (nI tt)) 31 5 0) 31 6 0) 31 7 (-1)) 31 8 1) 31 9 (γ.1 5 11)) (by rw [ea]) (sq_g ?_))))))
  refine bd_g (leanTo_eq n _ hl hd ht ?_ ?_) rfl
  · show (cp (cp (cp (cp (cp (cp (cp (cp γ 31 10 ring) 32 6 (nI hh)) 32 7 (nI tt)) 31 5 0) 31 6 0) 31 7 (-1)) 31 8 1) 31 9 (γ.1 5 11)).1 32 3 = nI d
    simp [cp_1, g3]
  · show (cp (cp (cp (cp (cp (cp (cp (cp γ 31 10 ring) 32 6 (nI hh)) 32 7 (nI tt)) 31 5 0) 31 6 0) 31 7 (-1)) 31 8 1) 31 9 (γ.1 5 11)).1 32 5 = nI t
    simp [cp_1, g5]
theorem bgA_CE (γ : CS) (w d e t : Nat) : CE γ (bgA γ w d e t) := CE.tr (CE.tr (CE.tr (CE_cp (by omega) _ _) (CE_cp (by omega) _ _)) (CE_cp (by omega) _ _)) (CE_cp (by omega) _ _)
theorem bgB_CE (γ : CS) (hh tt l d t : Nat) (air ring : Int32) : CE γ (bgB γ hh tt l d t air ring) := by
  unfold bgB
  exact CE.tr (CE.tr (CE.tr (CE.tr (CE.tr (CE.tr (CE.tr (CE.tr (CE.tr (CE.tr (CE.tr (CE.tr (CE_cp (by omega) _ _) (CE_cp (by omega) _ _)) (CE_cp (by omega) _ _)) (CE_cp (by omega) _ _)) (CE_cp (by omega) _ _)) (CE_cp (by omega) _ _)) (CE_cp (by omega) _ _)) (CE_cp (by omega) _ _)) (CE_cpp _ _)) (CE_cp (by omega) _ _)) (CE_cp (by omega) _ _)) (CE_cp (by omega) _ _)) (CE_cp (by omega) _ _)
/-- what the engine leaves, and references in range -/
def CG (γ γ1 : CS) : Prop := CE γ γ1 ∧ (cwf γ → cwf γ1)
theorem CG.rf (γ : CS) : CG γ γ := ⟨CE.rf γ, id⟩
theorem CG.tr {a b c : CS} (h : CG a b) (g : CG b c) : CG a c := ⟨CE.tr h.1 g.1, fun x => g.2 (h.2 x)⟩
theorem CG_2 {a b : CS} (h : CE a b) (e : b.2 = a.2) : CG a b := ⟨h, fun w => by unfold cwf at *; rw [e]; exact w⟩
theorem CG_cp {γ : CS} {a : Nat} (h : a = 31 ∨ a = 32 ∨ a = 33) (k : Nat) (v : Int32) : CG γ (cp γ a k v) := CG_2 (CE_cp h k v) rfl
theorem cwf_none {γ : CS} {a k : Nat} (h : cwf γ) : cwf (cpp γ a k none) := fun x y q hq => by
  have hq : va_up γ.2.2.1 a (va_up (γ.2.2.1 a) k none) x y = some q := hq
  by_cases e : x = a
  · subst e
    rw [va_up_self] at hq
    by_cases e2 : y = k
    · subst e2; rw [va_up_self] at hq; cases hq
    · rw [va_up_ne _ _ e2] at hq; exact h _ _ _ hq
  · rw [va_up_ne _ _ e] at hq; exact h _ _ _ hq
theorem cwf_some {γ : CS} {a k q0 : Nat} (hq0 : q0 < γ.2.2.2.2.2) (h : cwf γ) : cwf (cpp γ a k (some q0)) := fun x y q hq => by
  have hq : va_up γ.2.2.1 a (va_up (γ.2.2.1 a) k (some q0)) x y = some q := hq
  by_cases e : x = a
  · subst e
    rw [va_up_self] at hq
    by_cases e2 : y = k
    · subst e2; rw [va_up_self] at hq; cases hq; exact hq0
    · rw [va_up_ne _ _ e2] at hq; exact h _ _ _ hq
  · rw [va_up_ne _ _ e] at hq; exact h _ _ _ hq
/-- what the class has in mind at a beginning -/
def BG (γ γ1 : CS) (μ : MS) (f w d e h t l : Nat) : Prop := CG γ γ1 ∧ γ1.2.2.1 31 11 = none ∧ γ1.1 31 6 = 0 ∧ γ1.1 31 7 = -1 ∧ γ1.1 31 9 = γ.1 5 11 ∧ (γ1.1 31 10 = if nI h < 5 then 0 else 1) ∧ MD γ1 l 0 1 d t ∧ γ1.1 32 2 = nI w ∧ γ1.1 32 4 = nI e ∧ ∃ hh, hh ≤ 9 ∧ γ1.1 32 6 = nI hh ∧ μ.1 8 f = nI hh ∧ γ1.1 32 7 = μ.1 9 f
theorem begin_C (n : Nat) {γ : CS} {μ : MS} {np nl ng : Nat} (HB : RBn γ 5 (live μ) np nl ng) {p q w d e h t l f : Nat} (hP : PLr γ 5 (live μ) p q w d e h t) (hl : l ≤ 9000) (hf : f < 4) : ∃ γ1, fc_X2_begin n γ (some q) (nI l) (nI f) = some (0, γ1) ∧ BG γ γ1 μ f w d e h t l := by
  obtain ⟨p1, p2, p3, ⟨p40, p41, p42, p43, p44⟩, p5, p6⟩ := hP
  have q34 := (pk_s p2).1
  obtain ⟨hh, tt, k1, k2, ⟨k3, k4⟩, k5, k6⟩ := HB.2.2.2.2.2.2.2.2.1 f hf
  have ha : γ.1 5 11 = 0 ∨ γ.1 5 11 = 1 := HB.2.2.2.2.1.2
  have g1 : ∀ v, (cp γ 32 2 v).1 q = γ.1 q := fun v => cp_ne _ _ _ _ (by omega)
  have hA := bgA_CE γ w d e t
  have eA : ∀ a, a ≠ 32 → (bgA γ w d e t).1 a = γ.1 a := fun a ha => by unfold bgA; rw [cp_ne _ _ _ _ ha, cp_ne _ _ _ _ ha, cp_ne _ _ _ _ ha, cp_ne _ _ _ _ ha]
  have hring : (if nI h < 5 then (0 : Int32) else 1) = 0 ∨ (if nI h < 5 then (0 : Int32) else 1) = 1 := by
    by_cases c : nI h < 5
    · rw [if_pos c]; exact Or.inl rfl
    · rw [if_neg c]; exact Or.inr rfl
  have hB := beg_58 n (bgA γ w d e t) (hh := hh) (tt := tt) hf hl (show d ≤ 99 by omega) (show t ≤ 9 by omega) hring (by rw [eA _ (by decide)]; exact k3) (by rw [eA _ (by decide)]; exact k5) (by rw [eA _ (by decide)]; exact ha) (by simp [bgA, cp_1]) (by simp [bgA, cp_1])
  refine ⟨bgB (bgA γ w d e t) hh tt l d t ((bgA γ w d e t).1 5 11) (if nI h < 5 then 0 else 1), ?_, ?_⟩
  · unfold fc_X2_begin
    refine oc_gs rfl (ck_g p2 (sq_r (x1 := cp γ 32 2 (nI w)) (by rw [p40]; rfl) (ck_g p2 (sq_r (x1 := cp (cp γ 32 2 (nI w)) 32 3 (nI d)) (by rw [cp_ne _ _ _ _ (by omega), p41]; rfl) (ck_g p2 (sq_r (x1 := cp (cp (cp γ 32 2 (nI w)) 32 3 (nI d)) 32 4 (nI e)) (by rw [cp_ne _ _ _ _ (by omega), cp_ne _ _ _ _ (by omega), p42]; rfl) (ck_g p2 (sq_r (x1 := bgA γ w d e t) (by rw [cp_ne _ _ _ _ (by omega), cp_ne _ _ _ _ (by omega), cp_ne _ _ _ _ (by omega), p44]; rfl) (ck_g p2 ?_)))))))))
    have e3 : (bgA γ w d e t).1 q 3 = nI h := by rw [eA q (by omega)]; exact p43
    rw [e3]
    by_cases c : nI h < 5
    · rw [if_pos c] at hB ⊢; rw [if_pos c]; exact hB
    · rw [if_neg c] at hB ⊢; rw [if_neg c]; exact hB
  · refine ⟨⟨CE.tr hA (bgB_CE _ _ _ _ _ _ _ _), fun w => ?_⟩, ?_, ?_, ?_, ?_, ?_, ⟨?_, ?_, ?_, ?_, ?_, ?_, ?_, ?_⟩, ?_, ?_, hh, k1, ?_, k4, ?_⟩
    · exact cwf_none (γ := γ) w
    · show va_up γ.2.2.1 31 (va_up (γ.2.2.1 31) 11 none) 31 11 = none
      rw [va_up_self, va_up_self]
    · simp [bgB, cp_1, cpp_1]
    · simp [bgB, cp_1, cpp_1]
    · simp [bgB, bgA, cp_1, cpp_1]
    · simp [bgB, cp_1, cpp_1]
    · simp [bgB, cp_1, cpp_1]
    · simp [bgB, cp_1, cpp_1]
    · simp [bgB, cp_1, cpp_1]; rfl
    · simp [bgB, cp_1, cpp_1]; rfl
    · simp [bgB, cp_1, cpp_1]
    · simp [bgB, cp_1, cpp_1]
    · simp [bgB, bgA, cp_1, cpp_1]
    · simp [bgB, bgA, cp_1, cpp_1]
    · simp [bgB, bgA, cp_1, cpp_1]
    · simp [bgB, bgA, cp_1, cpp_1]
    · simp [bgB, bgA, cp_1, cpp_1]
    · have : μ.1 9 f = nI tt := k6
      rw [this]
      simp [bgB, bgA, cp_1, cpp_1]
def mbg (μ : MS) (p l f : Nat) (set : Int32) : MS := mp (mp (mp (mp (mp (mp (mp μ 0 25 (nI p)) 0 26 (nI l)) 0 27 (nI f)) 0 28 set) 0 29 0) 0 30 (μ.1 0 12)) 0 31 (-1)
theorem begins_M (n : Nat) (μ : MS) (p l f : Nat) (set : Int32) : fm_begins n μ (nI p) (nI l) (nI f) set = some (0, mbg μ p l f set) := by
  unfold fm_begins mbg
  exact sq_g (sq_g (sq_g (sq_g (sq_g (sq_r (x1 := mp (mp (mp (mp (mp (mp μ 0 25 (nI p)) 0 26 (nI l)) 0 27 (nI f)) 0 28 set) 0 29 0) 0 30 (μ.1 0 12)) (by simp [mp_1]) (sq_g rfl))))))
theorem mbg_ME (μ : MS) (p l f : Nat) (set : Int32) : ME μ (mbg μ p l f set) := by
  unfold mbg
  exact ME.tr (ME.tr (ME.tr (ME.tr (ME.tr (ME.tr (ME_mp0 (by omega) _) (ME_mp0 (by omega) _)) (ME_mp0 (by omega) _)) (ME_mp0 (by omega) _)) (ME_mp0 (by omega) _)) (ME_mp0 (by omega) _)) (ME_mp0 (by omega) _)
theorem mbg_row (μ : MS) (p l f : Nat) (set : Int32) {a : Nat} (h : a ≠ 0) : (mbg μ p l f set).1 a = μ.1 a := by
  unfold mbg
  rw [mp_ne _ _ _ _ h, mp_ne _ _ _ _ h, mp_ne _ _ _ _ h, mp_ne _ _ _ _ h, mp_ne _ _ _ _ h, mp_ne _ _ _ _ h, mp_ne _ _ _ _ h]
/-- both have begun the same -/
theorem MR_begin {γ γ1 : CS} {μ : MS} {p q w d e h t l f : Nat} (set : Int32) (hP : PLr γ 5 (live μ) p q w d e h t) (hp : p < 6) (hf : f < 4) (hl : l ≤ 9000) (ha : γ.1 5 11 = μ.1 0 12) (hB : BG γ γ1 μ f w d e h t l) : MR γ1 (mbg μ p l f set) 0 p f l 0 1 := by
  obtain ⟨p1, p2, p3, p4, ⟨p50, p51, p52, p53, p54⟩, p6⟩ := hP
  obtain ⟨b1, b2, b3, b4, b5, b6, b7, b8, b9, hh, b10, b11, b12, b13⟩ := hB
  have r : ∀ a, a ≠ 0 → (mbg μ p l f set).1 a = μ.1 a := fun a ha => mbg_row μ p l f set ha
  have p50 : μ.1 3 p = nI w := p50
  have p51 : μ.1 4 p = nI d := p51
  have p52 : μ.1 5 p = nI e := p52
  have p53 : μ.1 6 p = nI h := p53
  have p54 : μ.1 7 p = nI t := p54
  refine ⟨d, t, hh, ⟨hp, hf, hl, by omega, by omega, b10⟩, b7, ⟨by simp [mbg, mp_1], by simp [mbg, mp_1], by simp [mbg, mp_1], by simp [mbg, mp_1]; rfl, by rw [r 4 (by decide)]; exact p51, by rw [r 7 (by decide)]; exact p54, hp, hf⟩, ⟨by rw [r 3 (by decide), p50]; exact b8, by rw [r 5 (by decide), p52]; exact b9, b11, by rw [r 8 (by decide)]; exact b12, by rw [r 9 (by decide)]; exact b13⟩, ⟨by rw [b5, ha]; simp [mbg, mp_1], by rw [b6, r 6 (by decide), p53]⟩, fun i hi => absurd hi (by omega), Or.inl ⟨b2, by simp [mbg, mp_1]⟩⟩
theorem MR_bits {γ : CS} {μ : MS} {nl p f l tk stp : Nat} (h : MR γ μ 0 p f l tk stp) (hb : ∀ i, i < nl → (bitI (γ.1 31 7) i = 0 ↔ bitI (μ.1 0 28) i = 0)) : MR γ μ nl p f l tk stp := by
  obtain ⟨d, t, hh, a1, a2, a3, a4, a5, a6, a7⟩ := h
  refine ⟨d, t, hh, a1, a2, a3, a4, a5, hb, ?_⟩
  rcases a7 with a7 | ⟨i, mf, q, hi, _⟩
  · exact Or.inl a7
  · exact absurd hi (by omega)
theorem MR_cp7 {γ : CS} {μ : MS} {p f l tk stp : Nat} (h : MR γ μ 0 p f l tk stp) (s : Int32) : MR (cp γ 31 7 s) μ 0 p f l tk stp := by
  obtain ⟨d, t, hh, a1, ⟨b1, b2, b3, b4, b5, b6, b7, b8⟩, a3, a4, a5, a6, a7⟩ := h
  have e32 : (cp γ 31 7 s).1 32 = γ.1 32 := cp_ne _ _ _ _ (by decide)
  have e31 : ∀ k, k ≠ 7 → (cp γ 31 7 s).1 31 k = γ.1 31 k := fun k hk => by rw [cp_1, if_neg (fun h => hk h.2)]
  refine ⟨d, t, hh, a1, ⟨by rw [e31 _ (by decide)]; exact b1, by rw [e31 _ (by decide)]; exact b2, by rw [e31 _ (by decide)]; exact b3, by rw [e31 _ (by decide)]; exact b4, by rw [e32]; exact b5, by rw [e32]; exact b6, by rw [e32]; exact b7, by rw [e32]; exact b8⟩, a3, by rw [e32]; exact a4, by rw [e31 _ (by decide), e31 _ (by decide)]; exact a5, fun i hi => absurd hi (by omega), ?_⟩
  rcases a7 with a7 | ⟨i, mf, q, hi, _⟩
  · exact Or.inl a7
  · exact absurd hi (by omega)
theorem MR_tick {γ : CS} {μ : MS} {nl p f l tk stp : Nat} (h : MR γ μ nl p f l tk stp) (tk1 : Nat) : MR (cp γ 31 5 (nI tk1)) (mp μ 0 29 (nI tk1)) nl p f l tk1 stp := by
  obtain ⟨d, t, hh, a1, ⟨b1, b2, b3, b4, b5, b6, b7, b8⟩, ⟨c1, c2, c3, c4, c5, c6, c7, c8⟩, a4, a5, a6, a7⟩ := h
  have e32 : (cp γ 31 5 (nI tk1)).1 32 = γ.1 32 := cp_ne _ _ _ _ (by decide)
  have e31 : ∀ k, k ≠ 5 → (cp γ 31 5 (nI tk1)).1 31 k = γ.1 31 k := fun k hk => by rw [cp_1, if_neg (fun h => hk h.2)]
  have em : ∀ k, k ≠ 29 → (mp μ 0 29 (nI tk1)).1 0 k = μ.1 0 k := fun k hk => by rw [mp_1, if_neg (fun h => hk h.2)]
  have er : ∀ a, a ≠ 0 → (mp μ 0 29 (nI tk1)).1 a = μ.1 a := fun a ha => mp_ne _ _ _ _ ha
  refine ⟨d, t, hh, a1, ⟨by rw [e31 _ (by decide)]; exact b1, by rw [e31 _ (by decide)]; exact b2, by rw [cp_1, if_pos ⟨rfl, rfl⟩], by rw [e31 _ (by decide)]; exact b4, by rw [e32]; exact b5, by rw [e32]; exact b6, by rw [e32]; exact b7, by rw [e32]; exact b8⟩, ⟨by rw [em _ (by decide)]; exact c1, by rw [em _ (by decide)]; exact c2, by rw [em _ (by decide)]; exact c3, by rw [mp_1, if_pos ⟨rfl, rfl⟩], by rw [er _ (by decide)]; exact c5, by rw [er _ (by decide)]; exact c6, c7, c8⟩, by rw [e32, er 3 (by decide), er 5 (by decide), er 8 (by decide), er 9 (by decide)]; exact a4, by rw [e31 _ (by decide), e31 _ (by decide), em _ (by decide), er 6 (by decide)]; exact a5, by rw [e31 _ (by decide), em _ (by decide)]; exact a6, ?_⟩
  rw [em _ (by decide), em _ (by decide), e31 _ (by decide)]
  exact a7
theorem MR_step {γ : CS} {μ : MS} {nl p f l tk stp : Nat} (h : MR γ μ nl p f l tk stp) (s1 : Nat) : MR (cp γ 31 8 (nI s1)) μ nl p f l tk s1 := by
  obtain ⟨d, t, hh, a1, ⟨b1, b2, b3, b4, b5, b6, b7, b8⟩, a3, a4, a5, a6, a7⟩ := h
  have e32 : (cp γ 31 8 (nI s1)).1 32 = γ.1 32 := cp_ne _ _ _ _ (by decide)
  have e31 : ∀ k, k ≠ 8 → (cp γ 31 8 (nI s1)).1 31 k = γ.1 31 k := fun k hk => by rw [cp_1, if_neg (fun h => hk h.2)]
  refine ⟨d, t, hh, a1, ⟨by rw [e31 _ (by decide)]; exact b1, by rw [e31 _ (by decide)]; exact b2, by rw [e31 _ (by decide)]; exact b3, by rw [cp_1, if_pos ⟨rfl, rfl⟩], by rw [e32]; exact b5, by rw [e32]; exact b6, by rw [e32]; exact b7, by rw [e32]; exact b8⟩, a3, by rw [e32]; exact a4, by rw [e31 _ (by decide), e31 _ (by decide)]; exact a5, by rw [e31 _ (by decide)]; exact a6, ?_⟩
  rw [e31 _ (by decide)]
  exact a7
theorem MR_air {γ : CS} {μ : MS} {nl p f l tk stp : Nat} (h : MR γ μ nl p f l tk stp) (x : Int32) : MR (cp γ 31 9 x) (mp μ 0 30 x) nl p f l tk stp := by
  obtain ⟨d, t, hh, a1, ⟨b1, b2, b3, b4, b5, b6, b7, b8⟩, ⟨c1, c2, c3, c4, c5, c6, c7, c8⟩, a4, a5, a6, a7⟩ := h
  have e32 : (cp γ 31 9 x).1 32 = γ.1 32 := cp_ne _ _ _ _ (by decide)
  have e31 : ∀ k, k ≠ 9 → (cp γ 31 9 x).1 31 k = γ.1 31 k := fun k hk => by rw [cp_1, if_neg (fun h => hk h.2)]
  have em : ∀ k, k ≠ 30 → (mp μ 0 30 x).1 0 k = μ.1 0 k := fun k hk => by rw [mp_1, if_neg (fun h => hk h.2)]
  have er : ∀ a, a ≠ 0 → (mp μ 0 30 x).1 a = μ.1 a := fun a ha => mp_ne _ _ _ _ ha
  refine ⟨d, t, hh, a1, ⟨by rw [e31 _ (by decide)]; exact b1, by rw [e31 _ (by decide)]; exact b2, by rw [e31 _ (by decide)]; exact b3, by rw [e31 _ (by decide)]; exact b4, by rw [e32]; exact b5, by rw [e32]; exact b6, by rw [e32]; exact b7, by rw [e32]; exact b8⟩, ⟨by rw [em _ (by decide)]; exact c1, by rw [em _ (by decide)]; exact c2, by rw [em _ (by decide)]; exact c3, by rw [em _ (by decide)]; exact c4, by rw [er _ (by decide)]; exact c5, by rw [er _ (by decide)]; exact c6, c7, c8⟩, by rw [e32, er 3 (by decide), er 5 (by decide), er 8 (by decide), er 9 (by decide)]; exact a4, ⟨by rw [cp_1, if_pos ⟨rfl, rfl⟩, mp_1, if_pos ⟨rfl, rfl⟩], by rw [e31 _ (by decide), er 6 (by decide)]; exact a5.2⟩, by rw [e31 _ (by decide), em _ (by decide)]; exact a6, ?_⟩
  rw [em _ (by decide), em _ (by decide), e31 _ (by decide)]
  exact a7
theorem MR_floor {γ : CS} {μ : MS} {nl p f l tk stp f1 hh1 tt1 : Nat} (h : MR γ μ nl p f l tk stp) (hf1 : f1 < 4) (hh9 : hh1 ≤ 9) (m8 : μ.1 8 f1 = nI hh1) (m9 : μ.1 9 f1 = nI tt1) : MR (cp (cp γ 32 6 (nI hh1)) 32 7 (nI tt1)) (mp μ 0 27 (nI f1)) nl p f1 l tk stp := by
  obtain ⟨d, t, hh, ⟨g1, g2, g3, g4, g5, g6⟩, ⟨b1, b2, b3, b4, b5, b6, b7, b8⟩, ⟨c1, c2, c3, c4, c5, c6, c7, c8⟩, ⟨k1, k2, k3, k4, k5⟩, a5, a6, a7⟩ := h
  have e31 : (cp (cp γ 32 6 (nI hh1)) 32 7 (nI tt1)).1 31 = γ.1 31 := by rw [cp_ne _ _ _ _ (by decide), cp_ne _ _ _ _ (by decide)]
  have e32 : ∀ k, k ≠ 6 → k ≠ 7 → (cp (cp γ 32 6 (nI hh1)) 32 7 (nI tt1)).1 32 k = γ.1 32 k := fun k h1 h2 => by rw [cp_1, if_neg (fun h => h2 h.2), cp_1, if_neg (fun h => h1 h.2)]
  have em : ∀ k, k ≠ 27 → (mp μ 0 27 (nI f1)).1 0 k = μ.1 0 k := fun k hk => by rw [mp_1, if_neg (fun h => hk h.2)]
  have er : ∀ a, a ≠ 0 → (mp μ 0 27 (nI f1)).1 a = μ.1 a := fun a ha => mp_ne _ _ _ _ ha
  refine ⟨d, t, hh1, ⟨g1, hf1, g3, g4, g5, hh9⟩, ⟨by rw [e31]; exact b1, by rw [e31]; exact b2, by rw [e31]; exact b3, by rw [e31]; exact b4, by rw [e32 _ (by decide) (by decide)]; exact b5, by rw [e32 _ (by decide) (by decide)]; exact b6, by rw [e32 _ (by decide) (by decide)]; exact b7, by rw [e32 _ (by decide) (by decide)]; exact b8⟩, ⟨by rw [em _ (by decide)]; exact c1, by rw [em _ (by decide)]; exact c2, by rw [mp_1, if_pos ⟨rfl, rfl⟩], by rw [em _ (by decide)]; exact c4, by rw [er _ (by decide)]; exact c5, by rw [er _ (by decide)]; exact c6, c7, hf1⟩, ⟨by rw [e32 _ (by decide) (by decide), er _ (by decide)]; exact k1, by rw [e32 _ (by decide) (by decide), er _ (by decide)]; exact k2, by simp [cp_1], by rw [er _ (by decide)]; exact m8, by rw [er _ (by decide), m9]; simp [cp_1]⟩, by rw [e31, em _ (by decide), er 6 (by decide)]; exact a5, by rw [e31, em _ (by decide)]; exact a6, ?_⟩
  rw [em _ (by decide), em _ (by decide), e31]
  exact a7
