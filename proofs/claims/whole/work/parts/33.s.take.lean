/-! what a loss takes -/
theorem ev_congr {φ ψ : Nat → Int32} (h : ∀ k, k < 8 → φ k = ψ k) : ∀ (cs st : List Int32), ev φ cs st = ev ψ cs st := by
  intro cs
  induction cs with
  | nil => intro st; rfl
  | cons c cs ih =>
    intro st
    have e : ev1 φ c st = ev1 ψ c st := by
      unfold ev1
      by_cases h0 : 0 ≤ c
      · rw [if_pos h0, if_pos h0]
        congr 1
        unfold cv
        by_cases h1 : c - 1000 < 0
        · rw [if_pos h1, if_pos h1]
        · rw [if_neg h1, if_neg h1]
          by_cases h2 : (8 : Int32) ≤ c - 1000
          · rw [if_pos h2, if_pos h2]
          · rw [if_neg h2, if_neg h2]
            obtain ⟨t, ht, et⟩ := nI_of h1
            rw [et] at h2 ⊢
            rw [nI_clamp ht]
            refine h t ?_
            rcases Nat.lt_or_ge t 8 with q | q
            · exact q
            · exact absurd (nI_le (a := 8) q ht) h2
      · rw [if_neg h0, if_neg h0]
    rw [ev, ev, e]
    exact ih _
/-- a law's number, held to 0 .. 9999 -/
def lw (φ : Nat → Int32) (cs : List Int32) : Int32 := clp ((ev φ cs []).headD 0)
theorem lw_congr {φ ψ : Nat → Int32} (h : ∀ k, k < 8 → φ k = ψ k) (cs : List Int32) : lw φ cs = lw ψ cs := by rw [lw, lw, ev_congr h]
theorem clp_nI (x : Int32) : ∃ m : Nat, m ≤ 9999 ∧ clp x = nI m := by
  have e0 : (0 : Int32).toInt = 0 := by decide
  have e9 : (9999 : Int32).toInt = 9999 := by decide
  unfold clp
  by_cases h1 : x < 0
  · exact ⟨0, by omega, by rw [if_pos h1]; rfl⟩
  · rw [if_neg h1]
    by_cases h2 : (9999 : Int32) < x
    · exact ⟨9999, by omega, by rw [if_pos h2]; rfl⟩
    · rw [if_neg h2]
      obtain ⟨j, hj, rfl⟩ := nI_of h1
      refine ⟨j, ?_, rfl⟩
      rw [Int32.lt_iff_toInt_lt, e9, nI_toInt hj] at h2
      omega
theorem lw_nI (φ : Nat → Int32) (cs : List Int32) : ∃ m : Nat, m ≤ 9999 ∧ lw φ cs = nI m := clp_nI _
theorem byLaw_eq (n : Nat) (γ : CS) {q a s : Nat} {cs : List Int32} (hn : 21 ≤ n) (h : LOr γ q a s cs) : ∃ f1 : Nat → Int32, fc_X1_byLaw n γ q = some (lw (γ.1 32) cs, cpr γ s f1) := by
  obtain ⟨hq, hq0, hPa, ha, hPs, hs, hNa, hNs, hl, hd, hc⟩ := h
  have hab : a ≠ s := fun e => by subst e; rw [hNa] at hNs; omega
  have h32 : s ≠ 32 := by have := (pk_s hs).1; omega
  obtain ⟨v, f1, hv, hr⟩ := byLaw_loop n γ q a s cs.length hq ha hs hPs hNa hNs hab h32 (by omega) cs 0 n [] (γ.1 s) (by simp) (fun i h => by rw [Nat.zero_add]; exact hc i h) hd (fun i hi => by simp at hi) (by omega) (by simp)
  refine ⟨f1, ?_⟩
  unfold fc_X1_byLaw
  refine sq_g (ck_g hq (od_g hPa (ck_g ha (sq_g (sq_g ?_)))))
  have e : lw (γ.1 32) cs = clp v := by rw [lw, hv]; rfl
  rw [e]
  rw [cpr_self] at hr
  rw [hNa]
  exact hr
theorem lawOf_eq (n : Nat) (μ : MS) {i p f fr : Nat} {cs : List Int32} (lean tone : Int32) (hn : 21 ≤ n) (hi : i < 8) (hp : p < 7) (hf : f < 4) (hl : cs.length ≤ 19) (hd : dp cs 0 = some 1) (h : LTr (live μ) i fr cs) : ∃ g1 : Nat → Int32, fm_lawOf n μ (nI i) (nI p) (nI f) lean tone = some (lw (fl μ p f lean tone) cs, mpr μ 17 g1) := by
  obtain ⟨h1, h2, h3, h4⟩ := h
  obtain ⟨v, g1, hv, hr⟩ := lawOf_loop n μ i p f (fr + cs.length) lean tone (by omega) hp hf (by omega) h2 cs fr n [] (μ.1 17) rfl h4 hd (fun i hi => by simp at hi) (by omega) (by simp)
  refine ⟨g1, ?_⟩
  unfold fm_lawOf
  refine sq_g (ck_g (ib_nI (by omega) (by omega)) (sq_r (x1 := nI fr) (by rw [nI_clamp (by omega)]; exact h1) ?_))
  have e : lw (fl μ p f lean tone) cs = clp v := by rw [lw, hv]; rfl
  rw [e]
  rw [mpr_self] at hr
  exact hr
def tkv (kd f t air ring tone lean edge hard tick l : Int32) : Int32 := if kd = 0 then (if air = 0 then 0 else if ring = 0 then l else l / 2) else if kd = 2 then (if tone < 100 then 0 else l) else if kd = 3 then (if 10 * (9 - edge) ≤ lean then 0 else l) else if kd = 4 then l * (9 - hard) / 9 else if kd = 6 then (if tick < f then 0 else if t < tick then 0 else l) else l
theorem takenBy_eq (n : Nat) (γ : CS) {q a s : Nat} {cs : List Int32} (hn : 21 ≤ n) (h : LOr γ q a s cs) : ∃ f1 : Nat → Int32, fc_X2_takenBy n γ q = some (tkv (γ.1 q 0) (γ.1 q 1) (γ.1 q 2) (γ.1 31 9) (γ.1 31 10) (γ.1 31 4) (γ.1 31 3) (γ.1 32 4) (γ.1 32 6) (γ.1 31 5) (lw (γ.1 32) cs), cpr γ s f1) := by
  have hq := h.1
  obtain ⟨f1, hb⟩ := byLaw_eq n γ hn h
  have hs := h.2.2.2.2.2.1
  have h32 : (32 : Nat) ≠ s := by have := (pk_s hs).1; omega
  have stay : some ((0 : Int32), γ) = some (0, cpr γ s (γ.1 s)) := by rw [cpr_self]
  unfold fc_X2_takenBy tkv
  by_cases k0 : γ.1 q 0 = 0
  · by_cases ha : γ.1 31 9 = 0
    · exact ⟨γ.1 s, ck_g hq (if_t k0 (if_t ha (by rw [if_pos k0, if_pos ha]; exact stay)))⟩
    · by_cases hr : γ.1 31 10 = 0
      · exact ⟨f1, ck_g hq (if_t k0 (if_f ha (if_t hr (ck_g hq (bd_g hb (by rw [if_pos k0, if_neg ha, if_pos hr]))))))⟩
      · exact ⟨f1, ck_g hq (if_t k0 (if_f ha (if_f hr (ck_g hq (bd_g hb (by rw [if_pos k0, if_neg ha, if_neg hr]))))))⟩
  · by_cases k2 : γ.1 q 0 = 2
    · by_cases ht : γ.1 31 4 < 100
      · exact ⟨γ.1 s, ck_g hq (if_f k0 (if_t k2 (if_t ht (by rw [if_neg k0, if_pos k2, if_pos ht]; exact stay))))⟩
      · exact ⟨f1, ck_g hq (if_f k0 (if_t k2 (if_f ht (ck_g hq (bd_g hb (by rw [if_neg k0, if_pos k2, if_neg ht]))))))⟩
    · by_cases k3 : γ.1 q 0 = 3
      · by_cases hl : 10 * (9 - γ.1 32 4) ≤ γ.1 31 3
        · exact ⟨γ.1 s, ck_g hq (if_f k0 (if_f k2 (if_t k3 (sq_g (if_t hl (by rw [if_neg k0, if_neg k2, if_pos k3, if_pos hl]; exact stay))))))⟩
        · exact ⟨f1, ck_g hq (if_f k0 (if_f k2 (if_t k3 (sq_g (if_f hl (ck_g hq (bd_g hb (by rw [if_neg k0, if_neg k2, if_pos k3, if_neg hl]))))))))⟩
      · by_cases k4 : γ.1 q 0 = 4
        · refine ⟨f1, ck_g hq (if_f k0 (if_f k2 (if_f k3 (if_t k4 (ck_g hq (bd_g hb (sq_r (x1 := γ.1 32 6) (by rw [cpr_ne _ _ _ h32]; rfl) (by rw [if_neg k0, if_neg k2, if_neg k3, if_pos k4]))))))))⟩
        · by_cases k6 : γ.1 q 0 = 6
          · by_cases t1 : γ.1 31 5 < γ.1 q 1
            · exact ⟨γ.1 s, ck_g hq (if_f k0 (if_f k2 (if_f k3 (if_f k4 (if_t k6 (ck_g hq (if_t t1 (by rw [if_neg k0, if_neg k2, if_neg k3, if_neg k4, if_pos k6, if_pos t1]; exact stay))))))))⟩
            · by_cases t2 : γ.1 q 2 < γ.1 31 5
              · exact ⟨γ.1 s, ck_g hq (if_f k0 (if_f k2 (if_f k3 (if_f k4 (if_t k6 (ck_g hq (if_f t1 (ck_g hq (if_t t2 (by rw [if_neg k0, if_neg k2, if_neg k3, if_neg k4, if_pos k6, if_neg t1, if_pos t2]; exact stay))))))))))⟩
              · exact ⟨f1, ck_g hq (if_f k0 (if_f k2 (if_f k3 (if_f k4 (if_t k6 (ck_g hq (if_f t1 (ck_g hq (if_f t2 (ck_g hq (bd_g hb (by rw [if_neg k0, if_neg k2, if_neg k3, if_neg k4, if_pos k6, if_neg t1, if_neg t2]))))))))))))⟩
          · exact ⟨f1, ck_g hq (if_f k0 (if_f k2 (if_f k3 (if_f k4 (if_f k6 (ck_g hq (bd_g hb (by rw [if_neg k0, if_neg k2, if_neg k3, if_neg k4, if_neg k6]))))))))⟩
