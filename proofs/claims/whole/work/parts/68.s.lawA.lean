section
/-! a LAW read by both: the class by descent, the reference by pending signs -/
def LW (γ : CS) (μ : MS) (L : Nat) (B : Nat → Nat) (p t0 : Nat) (T S : List Int32) (d u : Nat) : Prop := TCL γ L B p T ∧ LM μ L B p t0 T S d ∧ T.length + S.length ≤ p ∧ dp T 0 = some u
def LR (n L : Nat) (B : Nat → Nat) (t0 p d u : Nat) (S : List Int32) (w : Int32) (γ : CS) (μ : MS) (F : Option (Int32 × CS)) (E : List Int32 → Nat → Prop) : Prop :=
  (∃ γ1 μ1 p' T R j, F = some (0, γ1) ∧ yTX γ γ1 ∧ TCL γ1 L B p' (T ++ ngs R) ∧ (∀ k, lm_readsLaw_30 n (k + j) μ w = lm_readsLaw_30 n k μ1 0) ∧ LM μ1 L B p' t0 T (S ++ R.reverse) d ∧ LX t0 μ μ1 ∧ p + j ≤ p' ∧ T.length + (S.length + R.length) ≤ p' ∧ dp (T ++ ngs R) 0 = some (u + 1) ∧ E R p') ∨
  (∃ γ1 μ1 f j, F = some (0, γ1) ∧ yTX γ γ1 ∧ γ1.1 1 3 = nI f ∧ f ≤ 20 ∧ (∀ k, lm_readsLaw_30 n (k + j) μ w = some (0, μ1)) ∧ μ1.1 0 10 = nI f ∧ LX t0 μ μ1 ∧ p + j ≤ L + 1)
def Eat (R : List Int32) (_ : Nat) : Prop := R = []
def Epr (L : Nat) (B : Nat → Nat) (R : List Int32) (p : Nat) : Prop := (∀ s ∈ R, isop s ∧ 2 ≤ stn s) ∧ ¬ sg L B p = 42 ∧ ¬ sg L B p = 47
def Esu (L : Nat) (B : Nat → Nat) (R : List Int32) (p : Nat) : Prop := (∀ s ∈ R, isop s) ∧ ¬ sg L B p = 42 ∧ ¬ sg L B p = 47 ∧ ¬ sg L B p = 43 ∧ ¬ sg L B p = 45
def SUM (n L : Nat) (B : Nat → Nat) (t0 : Nat) (RS : Nat → CS → Int32 → Option (Int32 × CS)) (d : Nat) : Prop := ∀ (γ : CS) (μ : MS) (p : Nat) (T S : List Int32) (u : Nat), LW γ μ L B p t0 T S d u → stp S 1 → LR n L B t0 p d u S 1 γ μ (RS n γ (nI d)) (Esu L B)
theorem LR_pre {n L : Nat} {B : Nat → Nat} {t0 p p2 d u : Nat} {S : List Int32} {w w' : Int32} {γ γ' : CS} {μ μ' : MS} {F F' : Option (Int32 × CS)} {E : List Int32 → Nat → Prop} (j0 : Nat) (hs : ∀ k, lm_readsLaw_30 n (k + j0) μ w = lm_readsLaw_30 n k μ' w') (hx : LX t0 μ μ') (ht : yTX γ γ') (hp : p + j0 ≤ p2) (hF : F = F') (h : LR n L B t0 p2 d u S w' γ' μ' F' E) : LR n L B t0 p d u S w γ μ F E := by
  subst hF
  rcases h with ⟨γ1, μ1, p', T, R, j, a1, a2, a3, a4, a5, a6, a7, a8, a9, a10⟩ | ⟨γ1, μ1, f, j, a1, a2, a3, a4, a5, a6, a7, a8⟩
  · exact Or.inl ⟨γ1, μ1, p', T, R, j + j0, a1, ht.tr a2, a3, fun k => by rw [show k + (j + j0) = (k + j) + j0 by omega, hs, a4], a5, hx.tr a6, by omega, a8, a9, a10⟩
  · exact Or.inr ⟨γ1, μ1, f, j + j0, a1, ht.tr a2, a3, a4, fun k => by rw [show k + (j + j0) = (k + j) + j0 by omega, hs, a5], a6, hx.tr a7, by omega⟩
section
variable {γ : CS} {μ : MS} {L : Nat} {B : Nat → Nat} {p t0 d u : Nat} {T S : List Int32}
theorem LW_u (H : LW γ μ L B p t0 T S d u) : u ≤ p := by
  have := dp_len T 0 u H.2.2.2
  have := H.2.2.1
  omega
/-- a fault, at the place where both stand -/
theorem LR_flt {n : Nat} {w : Int32} {E : List Int32 → Nat → Prop} {F : Option (Int32 × CS)} (hT : yTB L B) (hp : p ≤ L) {C S' : List Int32} {d' : Nat} (h1 : LM μ L B p t0 C S' d') (hF : F = some (0, cp γ 1 3 (nI p))) (hs : ∀ k, lm_readsLaw_30 n (k + 1) μ w = some (0, μ)) : LR n L B t0 p d u S w γ μ F E :=
  Or.inr ⟨cp γ 1 3 (nI p), μ, p, 1, hF, TX_cp γ (by decide) _, by rw [cp_1, if_pos ⟨rfl, rfl⟩], by have := hT.1; omega, hs, h1.1.2.2.1, LX.rf _ _, by omega⟩
theorem c_expect (n : Nat) (hT : yTB L B) (T : TC γ L B p) {c : Nat} (h1 : p < L) (h2 : B p = c) : fc_X6_expect n γ (nI c) = some (0, cp γ 1 4 (nI (p + 1))) := by
  unfold fc_X6_expect
  exact bd_g (c_next n hT T) (if_t (sg_is h1 h2) (sq_r (x1 := cp γ 1 4 (nI (p + 1))) (by rw [T.2.2.2.1, nI_1]) rfl))
theorem c_expect_no (n : Nat) (hT : yTB L B) (T : TC γ L B p) {c : Nat} (hc : c < 2 ^ 31) (h : ¬ (p < L ∧ B p = c)) : fc_X6_expect n γ (nI c) = some (0, cp γ 1 3 (nI p)) := by
  unfold fc_X6_expect
  exact bd_g (c_next n hT T) (if_f (sg_isnt hT hc h) (bd_g (c_fail n T.2.2.1 _) (by rw [T.2.2.2.1])))
theorem c_expect_f (n : Nat) {f : Nat} (hf : f < 2 ^ 31) (h : γ.1 1 3 = nI f) {c : Nat} (hc : c < 2 ^ 31) : fc_X6_expect n γ (nI c) = some (0, γ) := by
  unfold fc_X6_expect
  exact bd_g (c_next_f n hf h) (if_f (fun e => nI_m1 hc e.symm) (bd_g (c_fail_f n hf h _) rfl))
theorem atom_spec (n : Nat) (hn : 100 ≤ n) (hT : yTB L B) (ht0 : t0 ≤ 160) (RS : Nat → CS → Int32 → Option (Int32 × CS)) (hRS : d < 4 → SUM n L B t0 RS (d + 1)) (hd4 : d ≤ 4) (H : LW γ μ L B p t0 T S d u) : LR n L B t0 p d u S 1 γ μ (fc_X6_readAtom_g RS n γ (nI d)) Eat := by
  have hL := hT.1
  obtain ⟨H1, H2, H3, H4⟩ := id H
  have hu := LW_u H
  have hpL : p ≤ L := H1.1.1
  unfold fc_X6_readAtom_g
  by_cases hp : p < L
  case neg =>
    refine LR_flt hT hpL H2 ?_ (rs_end1 n hT H2 hp)
    have hd : dgb L B p = false := by
      rcases dgb_cs L B p with h | h
      · have := dgb_t h; omega
      · exact h
    refine bd_g (c_next n hT H1.1) (if_f (by rw [sg_end hp]; decide) (bd_g (c_dig0 n hT H1.1 hd) (if_t rfl (bd_g (a := 0) (b := cp γ 1 3 (nI p)) ?_ rfl))))
    unfold fc_X6_readField
    refine bd_g (c_next n hT H1.1) (if_t (sg_end hp) ?_)
    unfold bc_X6_readField_22
    exact if_f (by decide) (bd_g (c_fail n H1.1.2.2.1 _) (by rw [H1.1.2.2.2.1]))
  have hBp := hT.2 p hp
  by_cases h40 : B p = 40
  · have hd : dgb L B p = false := by
      rcases dgb_cs L B p with h | h
      · have := dgb_t h; omega
      · exact h
    by_cases hd4' : d < 4
    case neg =>
      obtain rfl : d = 4 := by omega
      refine LR_flt hT hpL H2 ?_ (rs_bad1 n hT H2 hp hd (by rw [h40]; decide) (fun _ => rfl))
      refine bd_g (c_next n hT H1.1) (if_t (sg_is hp h40) (bd_g (a := 0) (b := cp γ 1 3 (nI p)) ?_ rfl))
      unfold fc_X6_readBracket_g
      exact if_f (nI_nlt (a := 4) (b := 4) (by omega) (by omega)) (bd_g (c_fail n H1.1.2.2.1 _) (by rw [H1.1.2.2.2.1]))
    obtain ⟨μ1, r1, r2, r3⟩ := rs_open n hT H2 hp h40 hd4' (by omega)
    have G1 : TCL (cp γ 1 4 (nI (p + 1))) L B (p + 1) T := TCL_at H1 hp
    have hX1 : yTX γ (cp γ 1 4 (nI (p + 1))) := TX_cp γ (by decide) _
    have hl : (S ++ [(40 : Int32)]).length = S.length + 1 := by rw [List.length_append]; rfl
    have hW : LW (cp γ 1 4 (nI (p + 1))) μ1 L B (p + 1) t0 T (S ++ [40]) (d + 1) u := ⟨G1, r2, by rw [hl]; omega, H4⟩
    have hR := hRS hd4' _ _ _ _ _ _ hW (Or.inr ⟨S, 40, rfl, Or.inl rfl⟩)
    have hcl : ∀ γ2 γ3 r, RS n (cp γ 1 4 (nI (p + 1))) (nI (d + 1)) = some (0, γ2) → fc_X6_expect n γ2 (nI 41) = some (r, γ3) → bd (fc_X6_next n γ) (fun r1 σ2 => if (r1 = 40) then (bd (fc_X6_readBracket_g RS n σ2 (nI d)) (fun _ σ14 => some (0, σ14))) else (bd (fc_X6_isAtDigit n σ2) (fun r4 σ5 => if (r4 = 0) then (bd (fc_X6_readField n σ5) (fun _ σ8 => some (0, σ8))) else (bd (fc_X6_readNumber n σ5 0 999) (fun r9 σ10 => bd (fc_X6_write n σ10 r9) (fun _ σ12 => some (0, σ12))))))) = some ((0 : Int32), γ3) := fun γ2 γ3 r h1 h2 => by
      refine bd_g (c_next n hT H1.1) (if_t (sg_is hp h40) (bd_g (a := 0) (b := γ3) ?_ rfl))
      unfold fc_X6_readBracket_g
      exact if_t (nI_lt (b := 4) hd4' (by omega)) (sq_r (x1 := cp γ 1 4 (nI (p + 1))) (by rw [H1.1.2.2.2.1, nI_1]) (bd_g (a := 0) (b := γ2) (by rw [nI_1]; exact h1) (bd_g h2 rfl)))
    rcases hR with ⟨γ2, μ2, p', T2, R, j, a1, a2, a3, a4, a5, a6, a7, a8, a9, a10⟩ | ⟨γ2, μ2, f, j, a1, a2, a3, a4, a5, a6, a7, a8⟩
    · have hp' : p' ≤ L := a3.1.1
      rw [hl] at a8
      have hsteps : ∀ k, lm_readsLaw_30 n (k + (j + 1)) μ 1 = lm_readsLaw_30 n k μ2 0 := fun k => by rw [show k + (j + 1) = (k + j) + 1 by omega, r1, a4]
      by_cases hc : p' < L ∧ B p' = 41
      · obtain ⟨μ3, s1, s2, s3⟩ := rs_close n (by omega) hT a5 hc.1 hc.2 hd4' a10.1 (by omega) (by omega)
        refine Or.inl ⟨cp γ2 1 4 (nI (p' + 1)), μ3, p' + 1, T2 ++ ngs R, [], j + 2, hcl _ _ _ a1 (c_expect n hT a3.1 hc.1 hc.2), (hX1.tr a2).tr (TX_cp _ (by decide) _), ?_, fun k => by rw [show k + (j + 2) = (k + 1) + (j + 1) by omega, hsteps, s1], by simpa using s2, (r3.tr a6).tr s3, by omega, ?_, ?_, rfl⟩
        · have := TCL_at a3 hc.1
          simpa [ngs] using this
        · rw [List.length_append]
          show T2.length + (ngs R).length + (S.length + 0) ≤ _
          rw [show (ngs R).length = R.length by simp [ngs]]
          omega
        · simpa [ngs] using a9
      · refine LR_pre (j + 1) hsteps (r3.tr a6) (hX1.tr a2) (show p + (j + 1) ≤ p' by omega) (hcl _ _ _ a1 (c_expect_no n hT a3.1 (by omega) hc)) (LR_flt hT hp' a5 rfl ?_)
        by_cases hq : p' < L
        · refine rs_bad0 n hT a5 hq ?_ (fun e => absurd ⟨hq, e⟩ hc)
          have e10 := a10
          unfold Esu at e10
          rw [sg_is hq rfl] at e10
          exact fun ho => by
            rcases ho with h | h | h | h
            · exact e10.2.2.2.1 h
            · exact e10.2.2.2.2 h
            · exact e10.2.1 h
            · exact e10.2.2.1 h
        · exact rs_end0 n hT a5 hq (by omega) (by omega)
    · exact Or.inr ⟨γ2, μ2, f, j + 1, hcl _ _ _ a1 (c_expect_f n (by omega) a3 (by omega)), hX1.tr a2, a3, a4, fun k => by rw [show k + (j + 1) = (k + j) + 1 by omega, r1, a5], a6, r3.tr a7, by omega⟩
  have ns40 : ¬ sg L B p = 40 := by rw [sg_is hp rfl]; exact fun e => h40 ((nI_eq (b := 40) (by omega) (by omega)).mp e)
  rcases dgb_cs L B p with hd | hd
  · have hv := nv_in hd
    obtain ⟨γ1, j', r1, r2, r3, r4⟩ := c_number n (by omega) hT H1.1 hd (nI 0) (nI 999)
    obtain ⟨γ2, w1, w2, w3⟩ := c_write n (TCL_TP H1 r3 r4) (by omega) (nI (nv L B p))
    obtain ⟨μ1, s1, s2, s3⟩ := rs_num n (by omega) hT H2 hd (by omega)
    refine Or.inl ⟨γ2, μ1, ne L B p, T ++ [nI (nv L B p)], [], 1, ?_, (TX_TP r3).tr w2, by simpa [ngs] using w3, s1, by simpa using s2, s3, by omega, ?_, ?_, rfl⟩
    · exact bd_g (c_next n hT H1.1) (if_f ns40 (bd_g (c_dig1 n hT H1.1 hd) (if_f one_ne (bd_g (r1.trans (c_65_in n _ (Nat.zero_le _) hv.1 (by omega) r2)) (bd_g w1 rfl)))))
    · rw [List.length_append]
      show T.length + 1 + (S.length + 0) ≤ _
      omega
    · have := dp_num H4 (by omega) (c := nI (nv L B p)) (nI_pos' (by omega))
      simpa [ngs] using this
  · have hFld : ∀ {γ3}, fc_X6_readField n γ = some ((0 : Int32), γ3) → bd (fc_X6_next n γ) (fun r1 σ2 => if (r1 = 40) then (bd (fc_X6_readBracket_g RS n σ2 (nI d)) (fun _ σ14 => some (0, σ14))) else (bd (fc_X6_isAtDigit n σ2) (fun r4 σ5 => if (r4 = 0) then (bd (fc_X6_readField n σ5) (fun _ σ8 => some (0, σ8))) else (bd (fc_X6_readNumber n σ5 0 999) (fun r9 σ10 => bd (fc_X6_write n σ10 r9) (fun _ σ12 => some (0, σ12))))))) = some ((0 : Int32), γ3) := fun h =>
      bd_g (c_next n hT H1.1) (if_f ns40 (bd_g (c_dig0 n hT H1.1 hd) (if_t rfl (bd_g h rfl))))
    have hix : ∀ {γ3}, bc_X6_readField_22 n γ (fnI (B p)) = some ((0 : Int32), γ3) → fc_X6_readField n γ = some ((0 : Int32), γ3) := fun h => by
      unfold fc_X6_readField
      refine bd_g (c_next n hT H1.1) (if_f (by rw [sg_is hp rfl]; exact nI_m1 (by omega)) (bd_g (c_next n hT H1.1) ?_))
      rw [sg_is hp rfl]
      exact bd_g (c_index n (by omega) γ hBp) h
    cases hfn : fnm (B p) with
    | some i =>
      obtain ⟨f1, f2, f3, f4, f5, f6⟩ := fn_tk hfn
      have e1000 : (1000 : Int32) + nI i = nI (1000 + i) := nI_add 1000 i
      obtain ⟨γ1, w1, w2, w3⟩ := c_write n H1 (by omega) (1000 + nI i)
      obtain ⟨μ1, s1, s2, s3⟩ := rs_fld n hT H2 hp hd f2 f1 (by omega)
      refine Or.inl ⟨cp γ1 1 4 (nI (p + 1)), μ1, p + 1, T ++ [1000 + nI i], [], 1, hFld (hix ?_), w2.tr (TX_cp _ (by decide) _), by simpa [ngs] using TCL_at w3 hp, s1, by simpa using s2, s3, by omega, ?_, ?_, rfl⟩
      · rw [f4]
        unfold bc_X6_readField_22
        exact if_t (nI_pos' (by omega)) (bd_g w1 (sq_r (x1 := cp γ1 1 4 (nI (p + 1))) (by rw [w3.1.2.2.2.1, nI_1]) rfl))
      · rw [List.length_append]
        show T.length + 1 + (S.length + 0) ≤ _
        omega
      · have := dp_num H4 (by omega) (c := 1000 + nI i) (by rw [e1000]; exact nI_pos' (by omega))
        simpa [ngs] using this
    | none =>
      obtain ⟨f1, f2⟩ := fn_no hBp hfn
      refine LR_flt hT hpL H2 (hFld (hix ?_)) (rs_bad1 n hT H2 hp hd f2 (fun e => absurd e h40))
      rw [f1]
      unfold bc_X6_readField_22
      exact if_f (by decide) (bd_g (c_fail n H1.1.2.2.1 _) (by rw [H1.1.2.2.2.1]))
end
end
