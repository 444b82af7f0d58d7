/-! a LAW's codes worked out on a stack: what both do -/
def jn (s a b : Int32) : Int32 := if s = 43 then a + b else if s = 45 then a - b else if s = 42 then a * b else if b = 0 then 0 else a / b
def cv (φ : Nat → Int32) (c : Int32) : Int32 := if c - 1000 < 0 then c else if (8 : Int32) ≤ c - 1000 then c else φ (c - 1000).toNatClampNeg
def ev1 (φ : Nat → Int32) (c : Int32) (st : List Int32) : List Int32 := if 0 ≤ c then cv φ c :: st else match st with
  | b :: a :: r => jn (-c) a b :: r
  | st => st
def ev (φ : Nat → Int32) : List Int32 → List Int32 → List Int32
  | [], st => st
  | c :: cs, st => ev φ cs (ev1 φ c st)
theorem ev1_p {φ : Nat → Int32} {c : Int32} {st : List Int32} (h : 0 ≤ c) : ev1 φ c st = cv φ c :: st := if_pos h
theorem ev1_n {φ : Nat → Int32} {c x y : Int32} {r : List Int32} (h : ¬ 0 ≤ c) : ev1 φ c (y :: x :: r) = jn (-c) x y :: r := if_neg h
def dp : List Int32 → Nat → Option Nat
  | [], d => some d
  | c :: cs, d => if 0 ≤ c then (if d < 20 then dp cs (d + 1) else none) else (if 2 ≤ d then dp cs (d - 1) else none)
def clp (x : Int32) : Int32 := if x < 0 then 0 else if 9999 < x then 9999 else x
/-- the row holds the stack, its top at d - 1 -/
def onrow (f : Nat → Int32) (st : List Int32) : Prop := ∀ i (h : i < st.length), f (st.length - 1 - i) = st[i]
theorem onrow_push {f : Nat → Int32} {st : List Int32} {v : Int32} (h : onrow f st) : onrow (upd f st.length v) (v :: st) := by
  intro i hi
  cases i with
  | zero => simp [upd]
  | succ i =>
    have hi2 : i < st.length := by simpa using hi
    have e : (v :: st).length - 1 - (i + 1) = st.length - 1 - i := by simp; omega
    rw [e, upd_ne _ _ (by omega), List.getElem_cons_succ]
    exact h i hi2
theorem onrow_join {f : Nat → Int32} {a b v : Int32} {r : List Int32} (h : onrow f (b :: a :: r)) : onrow (upd f r.length v) (v :: r) := by
  intro i hi
  cases i with
  | zero => simp [upd]
  | succ i =>
    have hi2 : i < r.length := by simpa using hi
    have e : (v :: r).length - 1 - (i + 1) = r.length - 1 - i := by simp; omega
    rw [e, upd_ne _ _ (by omega), List.getElem_cons_succ]
    have := h (i + 2) (by simp; omega)
    have e2 : (b :: a :: r).length - 1 - (i + 2) = r.length - 1 - i := by simp; omega
    rw [e2] at this
    simpa using this
theorem joined_eq (n : Nat) (σ : CS) (s a b : Int32) : fc_X1_joined n σ s a b = some (jn s a b, σ) := by
  unfold fc_X1_joined jn
  by_cases h1 : s = 42
  · subst h1; rfl
  · by_cases h2 : s = 43
    · subst h2; rfl
    · by_cases h3 : s = 45
      · subst h3; rfl
      · by_cases h4 : b = 0
        · simp [h1, h2, h3, h4]
        · simp [h1, h2, h3, h4, ck]
theorem two_eq (n : Nat) (σ : MS) (s a b : Int32) : fm_two n σ s a b = some (jn s a b, σ) := by
  unfold fm_two jn
  by_cases h1 : s = 43
  · subst h1; rfl
  · by_cases h2 : s = 45
    · subst h2; rfl
    · by_cases h3 : s = 42
      · subst h3; rfl
      · by_cases h4 : b = 0
        · simp [h1, h2, h3, h4]
        · simp [h1, h2, h3, h4, ck]
theorem clp_c (y : Int32) : (if 0 < (if y < 9999 then y else 9999) then (if y < 9999 then y else 9999) else 0) = clp y := by
  unfold clp
  have e0 : (0 : Int32).toInt = 0 := by decide
  have e9 : (9999 : Int32).toInt = 9999 := by decide
  by_cases h1 : y < 9999
  · rw [if_pos h1]
    by_cases h2 : 0 < y
    · rw [if_pos h2, if_neg, if_neg]
      · rw [Int32.lt_iff_toInt_lt] at *; omega
      · rw [Int32.lt_iff_toInt_lt] at *; omega
    · rw [if_neg h2]
      by_cases h3 : y < 0
      · rw [if_pos h3]
      · rw [if_neg h3, if_neg]
        · apply Int32.toInt_inj.mp
          rw [Int32.lt_iff_toInt_lt] at *; omega
        · rw [Int32.lt_iff_toInt_lt] at *; omega
  · rw [if_neg h1, if_pos (by decide), if_neg]
    · by_cases h3 : (9999 : Int32) < y
      · rw [if_pos h3]
      · rw [if_neg h3]
        apply Int32.toInt_inj.mp
        rw [Int32.lt_iff_toInt_lt] at *; omega
    · rw [Int32.lt_iff_toInt_lt] at *; omega
theorem sq_g {α β : Type} {x : α} {f : α → β} {y : β} (h : f x = y) : sq x f = y := h
theorem sq_r {α β : Type} {x x1 : α} {f : α → β} {y : β} (e : x = x1) (h : f x1 = y) : sq x f = y := by subst e; exact h
theorem ck_g {α : Type} {b : Bool} {x y : Option α} (e : b = true) (h : x = y) : ck b x = y := by subst e; exact h
theorem od_g {β : Type} {o : Option Nat} {q : Nat} {f : Nat → Option β} {y : Option β} (e : o = some q) (h : f q = y) : od o f = y := by subst e; exact h
theorem oc_gs {β : Type} {o : Option Nat} {q : Nat} {a : β} {f : Nat → β} {y : β} (e : o = some q) (h : f q = y) : oc o a f = y := by subst e; exact h
theorem oc_gn {β : Type} {o : Option Nat} {a : β} {f : Nat → β} {y : β} (e : o = none) (h : a = y) : oc o a f = y := by subst e; exact h
theorem bd_g {α β γ : Type} {o : Option (α × β)} {a : α} {b : β} {f : α → β → Option γ} {y : Option γ} (e : o = some (a, b)) (h : f a b = y) : bd o f = y := by subst e; exact h
theorem if_t {α : Type} {c : Prop} [Decidable c] {x z y : α} (hc : c) (h : x = y) : (if c then x else z) = y := by rw [if_pos hc]; exact h
theorem if_f {α : Type} {c : Prop} [Decidable c] {x z y : α} (hc : ¬ c) (h : z = y) : (if c then x else z) = y := by rw [if_neg hc]; exact h
/-- the class's loop over a law: q the loss, a its law, b its stack -/
theorem byLaw_loop (n : Nat) (σ : CS) (q a b : Nat) (len : Nat) (hq : pk σ q 1 = true) (ha : pk σ a 9 = true) (hb : pk σ b 9 = true) (hPb : σ.2.2.1 q 4 = some b) (hNa : σ.2.2.2.2.1 a = len) (hNb : σ.2.2.2.2.1 b = 20) (hab : a ≠ b) (h32 : b ≠ 32) (hlen : len < 1000) :
    ∀ (cs : List Int32) (j k : Nat) (st : List Int32) (f : Nat → Int32), j + cs.length = len → (∀ i, i < cs.length → σ.1 a (j + i) = cs.getD i 0) → (dp cs st.length = some 1) → onrow f st → cs.length < k → st.length ≤ 20 →
      ∃ (v : Int32) (f1 : Nat → Int32), ev (σ.1 32) cs st = [v] ∧ lc_X1_byLaw_14 n k (cpr σ b f) q (nI st.length - 1) a (nI len) (nI j) = some (clp v, cpr σ b f1) := by
  intro cs
  induction cs with
  | nil =>
    intro j k st f hj hc hd hf hk hs20
    have hst : st.length = 1 := by simpa [dp] using hd
    obtain ⟨v, rfl⟩ : ∃ v, st = [v] := List.length_eq_one_iff.mp hst
    obtain ⟨k, rfl⟩ : ∃ k', k = k' + 1 := ⟨k - 1, by omega⟩
    have hj2 : j = len := by simpa using hj
    subst hj2
    refine ⟨v, f, rfl, ?_⟩
    have h0 : f 0 = v := by simpa using hf 0 (by simp)
    show bc_X1_byLaw_14 n (lc_X1_byLaw_14 n k) (cpr σ b f) q _ a _ _ = _
    unfold bc_X1_byLaw_14
    refine if_t (Int32.le_refl _) (ck_g hq (od_g hPb (ck_g hb (ck_g (by rw [show (cpr σ b f).2.2.2.2.1 b = 20 from hNb]; decide) (sq_r (x1 := v) (by rw [cpr_row]; exact h0) (sq_g (sq_g ?_)))))))
    rw [clp_c]
  | cons c cs ih =>
    intro j k st f hj hc hd hf hk hs20
    obtain ⟨k, rfl⟩ : ∃ k', k = k' + 1 := ⟨k - 1, by omega⟩
    have hjl : j + cs.length + 1 = len := by simp at hj; omega
    have hcj : σ.1 a j = c := hc 0 (by simp)
    have hc' : ∀ i, i < cs.length → σ.1 a (j + 1 + i) = cs.getD i 0 := fun i h => by
      have := hc (i + 1) (by simp; omega)
      rw [show j + 1 + i = j + (i + 1) by omega]
      exact this
    have hk' : cs.length < k := by simp at hk; omega
    have hjn : ¬ nI len ≤ nI j := nI_ge (by omega) (by omega)
    have hib : ib (nI j) ((cpr σ b f).2.2.2.2.1 a) = true := by rw [show (cpr σ b f).2.2.2.2.1 a = len from hNa]; exact ib_nI (by omega) (by omega)
    have hclj : Int32.toNatClampNeg (nI j) = j := nI_clamp (by omega)
    have evj : (cpr σ b f).1 a (Int32.toNatClampNeg (nI j)) = c := by rw [hclj, cpr_ne _ _ _ hab]; exact hcj
    have ev32 : (cpr σ b f).1 32 = σ.1 32 := cpr_ne _ _ _ (fun h => h32 h.symm)
    show ∃ v f1, _ ∧ bc_X1_byLaw_14 n (lc_X1_byLaw_14 n k) (cpr σ b f) q _ a _ _ = _
    by_cases h0 : 0 ≤ c
    · have hd2 : st.length < 20 ∧ dp cs (st.length + 1) = some 1 := by
        simp only [dp, if_pos h0] at hd
        by_cases h : st.length < 20
        · rw [if_pos h] at hd; exact ⟨h, hd⟩
        · rw [if_neg h] at hd; cases hd
      have e20 : ¬ (Int32.ofNat ((cpr σ b f).2.2.2.2.1 b) ≤ nI st.length - 1 + 1) := by
        rw [show (cpr σ b f).2.2.2.2.1 b = 20 from hNb, i32_sub_add]
        exact nI_ge hd2.1 (by omega)
      have hid : ib (nI st.length) ((cpr σ b f).2.2.2.2.1 b) = true := by rw [show (cpr σ b f).2.2.2.2.1 b = 20 from hNb]; exact ib_nI hd2.1 (by omega)
      have hcd : Int32.toNatClampNeg (nI st.length) = st.length := nI_clamp (by omega)
      obtain ⟨v, f1, hv, hr⟩ := ih (j + 1) k (cv (σ.1 32) c :: st) (upd f st.length (cv (σ.1 32) c)) (by omega) hc' hd2.2 (onrow_push hf) hk' (by simp; omega)
      refine ⟨v, f1, by rw [ev, ev1_p h0]; exact hv, ?_⟩
      have estep : ∀ w, w = cv (σ.1 32) c → lc_X1_byLaw_14 n k (cp (cpr σ b f) b (Int32.toNatClampNeg (nI st.length)) w) q (nI st.length) a (nI len) (nI j + 1) = some (clp v, cpr σ b f1) := by
        intro w hw
        subst hw
        have e1 : nI (cv (σ.1 32) c :: st).length - 1 = nI st.length := nI_sub1 _
        rw [e1] at hr
        rw [nI_1, cpr_cp, hcd]
        exact hr
      unfold bc_X1_byLaw_14
      refine if_f hjn (ck_g ha (ck_g hib (sq_r evj (if_t h0 (ck_g hq (od_g hPb (ck_g hb (if_f e20 (sq_r (i32_sub_add _) (sq_g (ck_g hq (od_g hPb ?_))))))))))))
      by_cases h1 : c - 1000 < 0
      · exact if_t h1 (ck_g hb (ck_g hid (sq_g (sq_g (estep c (by rw [cv, if_pos h1]))))))
      · refine if_f h1 ?_
        by_cases h2 : (8 : Int32) ≤ c - 1000
        · exact if_t h2 (ck_g hb (ck_g hid (sq_g (sq_g (estep c (by rw [cv, if_neg h1, if_pos h2]))))))
        · have hi8 : ib (c - 1000) 8 = true := by
            obtain ⟨t, ht, et⟩ := nI_of h1
            rw [et] at h2 ⊢
            have : t < 8 := by
              rcases Nat.lt_or_ge t 8 with h | h
              · exact h
              · exact absurd (nI_le (a := 8) h ht) h2
            exact ib_nI this (by omega)
          refine if_f h2 (ck_g hi8 (sq_g (ck_g hb (ck_g hid (sq_g (sq_g (estep _ ?_)))))))
          rw [cv, if_neg h1, if_neg h2, ev32]
    · have hd2 : 2 ≤ st.length ∧ dp cs (st.length - 1) = some 1 := by
        simp only [dp, if_neg h0] at hd
        by_cases h : 2 ≤ st.length
        · rw [if_pos h] at hd; exact ⟨h, hd⟩
        · rw [if_neg h] at hd; cases hd
      match st, hd2, hf, hs20 with
      | y :: x :: r, hd2, hf, hs20 =>
        have hl2 : (y :: x :: r).length = r.length + 1 + 1 := rfl
        have hr18 : r.length + 2 ≤ 20 := by simpa using hs20
        have ex : nI (y :: x :: r).length - 1 = nI (r.length + 1) := by rw [hl2, nI_sub1]
        have em : nI (r.length + 1) + (-1) = nI r.length := by
          have := nI_sub1 r.length
          rw [Int32.sub_eq_add_neg] at this
          exact this
        have n1 : ¬ nI (r.length + 1) < 1 := nI_nlt (a := r.length + 1) (b := 1) (by omega) (by omega)
        have n20 : ¬ Int32.ofNat ((cpr σ b f).2.2.2.2.1 b) ≤ nI (r.length + 1) := by
          rw [show (cpr σ b f).2.2.2.2.1 b = 20 from hNb]
          exact nI_ge (by omega) (by omega)
        have hi0 : ib (nI r.length) ((cpr σ b f).2.2.2.2.1 b) = true := by rw [show (cpr σ b f).2.2.2.2.1 b = 20 from hNb]; exact ib_nI (by omega) (by omega)
        have hi1 : ib (nI r.length + 1) ((cpr σ b f).2.2.2.2.1 b) = true := by rw [show (cpr σ b f).2.2.2.2.1 b = 20 from hNb, nI_1]; exact ib_nI (by omega) (by omega)
        have hc0 : Int32.toNatClampNeg (nI r.length) = r.length := nI_clamp (by omega)
        have hc1 : Int32.toNatClampNeg (nI r.length + 1) = r.length + 1 := by rw [nI_1]; exact nI_clamp (by omega)
        have vx : (cpr σ b f).1 b (Int32.toNatClampNeg (nI r.length)) = x := by
          rw [hc0, cpr_row]
          have := hf 1 (by simp)
          simpa using this
        have vy : (cpr σ b f).1 b (Int32.toNatClampNeg (nI r.length + 1)) = y := by
          rw [hc1, cpr_row]
          have := hf 0 (by simp)
          simpa using this
        obtain ⟨v, f1, hv, hr⟩ := ih (j + 1) k (jn (-c) x y :: r) (upd f r.length (jn (-c) x y)) (by omega) hc' (by simpa using hd2.2) (onrow_join hf) hk' (by simp; omega)
        refine ⟨v, f1, by rw [ev, ev1_n h0]; exact hv, ?_⟩
        have e1 : nI (jn (-c) x y :: r).length - 1 = nI r.length := nI_sub1 _
        rw [e1] at hr
        rw [ex]
        unfold bc_X1_byLaw_14
        refine if_f hjn (ck_g ha (ck_g hib (sq_r evj (if_f h0 (if_f n1 (ck_g hq (od_g hPb (ck_g hb (if_f n20 (sq_r em (ck_g hq (od_g hPb (ck_g hq (od_g hPb (ck_g hb (ck_g hi0 (sq_r vx (ck_g hq (od_g hPb (ck_g hb (ck_g hi1 (sq_r vy (bd_g (joined_eq _ _ _ _ _) (ck_g hb (ck_g hi0 (sq_g (sq_g ?_)))))))))))))))))))))))))))
        rw [nI_1, cpr_cp, hc0]
        exact hr
      | [x], hd2, hf, hs20 => simp at hd2
      | [], hd2, hf, hs20 => simp at hd2
/-- which of the reference's tokens is which of the class's codes -/
def tkc (t c : Int32) : Prop := (1000 ≤ t ∧ t < 2000 ∧ c = t - 1000) ∨ (t = 108 ∧ c = 1000) ∨ (t = 116 ∧ c = 1001) ∨ (t = 119 ∧ c = 1002) ∨ (t = 100 ∧ c = 1003) ∨ (t = 101 ∧ c = 1004) ∨ (t = 98 ∧ c = 1005) ∨ (t = 102 ∧ c = 1006) ∨ (t = 107 ∧ c = 1007) ∨ ((t = 43 ∨ t = 45 ∨ t = 42 ∨ t = 47) ∧ c = -t)
/-- what the fields are, by the reference's rows -/
def fl (μ : MS) (p f : Nat) (lean tone : Int32) : Nat → Int32 := fun k => match k with
  | 0 => lean
  | 1 => tone
  | 2 => μ.1 3 p
  | 3 => μ.1 4 p
  | 4 => μ.1 5 p
  | 5 => μ.1 7 p
  | 6 => μ.1 8 f
  | _ => μ.1 9 f
theorem fl_mpr (μ : MS) (g : Nat → Int32) (p f : Nat) (lean tone : Int32) : fl (mpr μ 17 g) p f lean tone = fl μ p f lean tone := rfl
theorem cv_num {φ : Nat → Int32} {t : Int32} (h1 : 1000 ≤ t) (h2 : t < 2000) : 0 ≤ t - 1000 ∧ cv φ (t - 1000) = t - 1000 := by
  have e0 : (0 : Int32).toInt = 0 := by decide
  have e1 : (1000 : Int32).toInt = 1000 := by decide
  have e2 : (2000 : Int32).toInt = 2000 := by decide
  rw [Int32.le_iff_toInt_le, e1] at h1
  rw [Int32.lt_iff_toInt_lt, e2] at h2
  have et : (t - 1000).toInt = t.toInt - 1000 := by rw [i_sub (by rw [e1]; omega) (by rw [e1]; omega), e1]
  have et2 : (t - 1000 - 1000).toInt = t.toInt - 2000 := by rw [i_sub (by rw [et, e1]; omega) (by rw [et, e1]; omega), et, e1]; omega
  refine ⟨by rw [Int32.le_iff_toInt_le, e0, et]; omega, ?_⟩
  rw [cv, if_pos]
  rw [Int32.lt_iff_toInt_lt, et2, e0]; omega
theorem fieldOf_eq (n : Nat) (μ : MS) (p f : Nat) (lean tone : Int32) (hp : p < 7) (hf : f < 4) {t c : Int32} (h : tkc t c) (ht : ¬ 1000 ≤ t) (hop : ¬ (t = 43 ∨ t = 45 ∨ t = 42 ∨ t = 47)) : fm_isField n μ t = some (1, μ) ∧ 0 ≤ c ∧ fm_fieldOf n μ t (nI p) (nI f) lean tone = some (cv (fl μ p f lean tone) c, μ) := by
  have ip : ib (nI p) 7 = true := ib_nI hp (by omega)
  have jf : ib (nI f) 4 = true := ib_nI hf (by omega)
  have cp0 : Int32.toNatClampNeg (nI p) = p := nI_clamp (by omega)
  have cf0 : Int32.toNatClampNeg (nI f) = f := nI_clamp (by omega)
  rcases h with h | ⟨rfl, rfl⟩ | ⟨rfl, rfl⟩ | ⟨rfl, rfl⟩ | ⟨rfl, rfl⟩ | ⟨rfl, rfl⟩ | ⟨rfl, rfl⟩ | ⟨rfl, rfl⟩ | ⟨rfl, rfl⟩ | h
  · exact absurd h.1 ht
  · exact ⟨rfl, by decide, rfl⟩
  · exact ⟨rfl, by decide, rfl⟩
  · refine ⟨rfl, by decide, ?_⟩
    show ck (ib (nI p) 7) (sq (μ.1 3 (Int32.toNatClampNeg (nI p))) (fun y => some (y, μ))) = _
    rw [ip, cp0]; rfl
  · refine ⟨rfl, by decide, ?_⟩
    show ck (ib (nI p) 7) (sq (μ.1 4 (Int32.toNatClampNeg (nI p))) (fun y => some (y, μ))) = _
    rw [ip, cp0]; rfl
  · refine ⟨rfl, by decide, ?_⟩
    show ck (ib (nI p) 7) (sq (μ.1 5 (Int32.toNatClampNeg (nI p))) (fun y => some (y, μ))) = _
    rw [ip, cp0]; rfl
  · refine ⟨rfl, by decide, ?_⟩
    show ck (ib (nI p) 7) (sq (μ.1 7 (Int32.toNatClampNeg (nI p))) (fun y => some (y, μ))) = _
    rw [ip, cp0]; rfl
  · refine ⟨rfl, by decide, ?_⟩
    show ck (ib (nI f) 4) (sq (μ.1 8 (Int32.toNatClampNeg (nI f))) (fun y => some (y, μ))) = _
    rw [jf, cf0]; rfl
  · refine ⟨rfl, by decide, ?_⟩
    show ck (ib (nI f) 4) (sq (μ.1 9 (Int32.toNatClampNeg (nI f))) (fun y => some (y, μ))) = _
    rw [jf, cf0]; rfl
  · exact absurd h.1 hop
theorem notField (n : Nat) (μ : MS) {t : Int32} (h : t = 43 ∨ t = 45 ∨ t = 42 ∨ t = 47) : fm_isField n μ t = some (0, μ) := by
  rcases h with rfl | rfl | rfl | rfl <;> rfl
theorem op_neg {t c : Int32} (h : tkc t c) (hop : t = 43 ∨ t = 45 ∨ t = 42 ∨ t = 47) : c = -t := by
  rcases hop with rfl | rfl | rfl | rfl <;> (rcases h with h | h | h | h | h | h | h | h | h | h <;> first | exact absurd h.1 (by decide) | exact h.2)
theorem lawOf_loop (n : Nat) (μ : MS) (i p f en : Nat) (lean tone : Int32) (hi : i < 9) (hp : p < 7) (hf : f < 4) (he : en ≤ 300) (hL : μ.1 15 (i + 1) = nI en) :
    ∀ (cs : List Int32) (j k : Nat) (st : List Int32) (g : Nat → Int32), j + cs.length = en → (∀ i, i < cs.length → tkc (μ.1 14 (j + i)) (cs.getD i 0)) → (dp cs st.length = some 1) → onrow g st → cs.length < k → st.length ≤ 20 →
      ∃ (v : Int32) (g1 : Nat → Int32), ev (fl μ p f lean tone) cs st = [v] ∧ lm_lawOf_11 n k (mpr μ 17 g) (nI i) (nI p) (nI f) lean tone (nI st.length) (nI j) = some (clp v, mpr μ 17 g1) := by
  have hi1 : ib (nI i + 1) 10 = true := by rw [nI_1]; exact ib_nI (by omega) (by omega)
  have hL1 : ∀ g, (mpr μ 17 g).1 15 (Int32.toNatClampNeg (nI i + 1)) = nI en := fun g => by rw [nI_1, nI_clamp (by omega), mpr_ne _ _ _ (by decide)]; exact hL
  intro cs
  induction cs with
  | nil =>
    intro j k st g hj hc hd hf hk hs20
    have hst : st.length = 1 := by simpa [dp] using hd
    obtain ⟨v, rfl⟩ : ∃ v, st = [v] := List.length_eq_one_iff.mp hst
    obtain ⟨k, rfl⟩ : ∃ k', k = k' + 1 := ⟨k - 1, by omega⟩
    have hj2 : j = en := by simpa using hj
    subst hj2
    refine ⟨v, g, rfl, ?_⟩
    have h0 : (mpr μ 17 g).1 17 (Int32.toNatClampNeg 0) = v := by rw [mpr_row]; simpa using hf 0 (by simp)
    show bm_lawOf_11 n (lm_lawOf_11 n k) (mpr μ 17 g) _ _ _ _ _ _ _ = _
    unfold bm_lawOf_11
    refine ck_g hi1 (sq_r (hL1 g) (if_t (Int32.le_refl _) (sq_r h0 ?_)))
    have e0 : (0 : Int32).toInt = 0 := by decide
    have e9 : (9999 : Int32).toInt = 9999 := by decide
    by_cases h1 : 0 ≤ v
    · refine if_t h1 (sq_r h0 ?_)
      have h1n : ¬ v < 0 := fun h => by rw [Int32.lt_iff_toInt_lt] at h; rw [Int32.le_iff_toInt_le] at h1; omega
      by_cases h2 : v ≤ 9999
      · refine if_t h2 (sq_r h0 ?_)
        have h2n : ¬ (9999 : Int32) < v := fun h => by rw [Int32.lt_iff_toInt_lt] at h; rw [Int32.le_iff_toInt_le] at h2; omega
        rw [clp, if_neg h1n, if_neg h2n]
      · refine if_f h2 ?_
        have h2n : (9999 : Int32) < v := by rw [Int32.lt_iff_toInt_lt]; rw [Int32.le_iff_toInt_le] at h2; omega
        rw [clp, if_neg h1n, if_pos h2n]
    · refine if_f h1 ?_
      have h1n : v < 0 := by rw [Int32.lt_iff_toInt_lt]; rw [Int32.le_iff_toInt_le] at h1; omega
      rw [clp, if_pos h1n]
  | cons c cs ih =>
    intro j k st g hj hc hd hf2 hk hs20
    obtain ⟨k, rfl⟩ : ∃ k', k = k' + 1 := ⟨k - 1, by omega⟩
    have hjl : j + cs.length + 1 = en := by simp at hj; omega
    obtain ⟨t, et⟩ : ∃ t, t = μ.1 14 j := ⟨_, rfl⟩
    have htk : tkc t c := by rw [et]; exact hc 0 (by simp)
    have hc' : ∀ i, i < cs.length → tkc (μ.1 14 (j + 1 + i)) (cs.getD i 0) := fun i h => by
      have := hc (i + 1) (by simp; omega)
      rw [show j + 1 + i = j + (i + 1) by omega]
      exact this
    have hk' : cs.length < k := by simp at hk; omega
    have hjn : ¬ nI en ≤ nI j := nI_ge (by omega) (by omega)
    have hib : ib (nI j) 300 = true := ib_nI (by omega) (by omega)
    have evj : (mpr μ 17 g).1 14 (Int32.toNatClampNeg (nI j)) = t := by rw [nI_clamp (by omega), mpr_ne _ _ _ (by decide), et]
    show ∃ v g1, _ ∧ bm_lawOf_11 n (lm_lawOf_11 n k) (mpr μ 17 g) _ _ _ _ _ _ _ = _
    have hid : st.length < 20 → ib (nI st.length) 24 = true := fun h => ib_nI (by omega) (by omega)
    have hcd : Int32.toNatClampNeg (nI st.length) = st.length := nI_clamp (by omega)
    have push : 0 ≤ c → st.length < 20 ∧ dp cs (st.length + 1) = some 1 := fun h0 => by
      simp only [dp, if_pos h0] at hd
      by_cases h : st.length < 20
      · rw [if_pos h] at hd; exact ⟨h, hd⟩
      · rw [if_neg h] at hd; cases hd
    by_cases h1000 : t < 1000
    · have ht : ¬ 1000 ≤ t := fun h => by rw [Int32.lt_iff_toInt_lt] at h1000; rw [Int32.le_iff_toInt_le] at h; omega
      by_cases hop : t = 43 ∨ t = 45 ∨ t = 42 ∨ t = 47
      · have hcn := op_neg htk hop
        have h0 : ¬ 0 ≤ c := by rw [hcn]; rcases hop with rfl | rfl | rfl | rfl <;> decide
        have hnc : -c = t := by rw [hcn]; rcases hop with rfl | rfl | rfl | rfl <;> decide
        have hd2 : 2 ≤ st.length ∧ dp cs (st.length - 1) = some 1 := by
          simp only [dp, if_neg h0] at hd
          by_cases h : 2 ≤ st.length
          · rw [if_pos h] at hd; exact ⟨h, hd⟩
          · rw [if_neg h] at hd; cases hd
        match st, hd2, hf2, hs20 with
        | y :: x :: r, hd2, hf2, hs20 =>
          have hr18 : r.length + 2 ≤ 20 := by simpa using hs20
          have em : nI (y :: x :: r).length + (-1) = nI (r.length + 1) := by
            have := nI_sub1 (r.length + 1)
            rw [Int32.sub_eq_add_neg] at this
            exact this
          have em2 : nI (r.length + 1) - 1 = nI r.length := nI_sub1 _
          have hi0 : ib (nI (r.length + 1) - 1) 24 = true := by rw [em2]; exact ib_nI (by omega) (by omega)
          have hi2 : ib (nI (r.length + 1)) 24 = true := ib_nI (by omega) (by omega)
          have vx : (mpr μ 17 g).1 17 (Int32.toNatClampNeg (nI (r.length + 1) - 1)) = x := by
            rw [em2, nI_clamp (by omega), mpr_row]
            have := hf2 1 (by simp)
            simpa using this
          have vy : (mpr μ 17 g).1 17 (Int32.toNatClampNeg (nI (r.length + 1))) = y := by
            rw [nI_clamp (by omega), mpr_row]
            have := hf2 0 (by simp)
            simpa using this
          obtain ⟨v, g1, hv, hr⟩ := ih (j + 1) k (jn (-c) x y :: r) (upd g r.length (jn (-c) x y)) (by omega) hc' (by simpa using hd2.2) (onrow_join hf2) hk' (by simp; omega)
          refine ⟨v, g1, by rw [ev, ev1_n h0]; exact hv, ?_⟩
          unfold bm_lawOf_11
          refine ck_g hi1 (sq_r (hL1 g) (if_f hjn (ck_g hib (sq_r evj (if_t h1000 (bd_g (notField _ _ hop) (if_t rfl (sq_r em (ck_g hi0 (sq_r vx (ck_g hi2 (sq_r vy (bd_g (two_eq _ _ _ _ _) (ck_g hi0 (sq_g (sq_g ?_))))))))))))))))
          rw [em2, nI_1, mpr_mp, nI_clamp (by omega), ← hnc]
          exact hr
        | [x], hd2, hf2, hs20 => simp at hd2
        | [], hd2, hf2, hs20 => simp at hd2
      · obtain ⟨e1, h0, e2⟩ := fieldOf_eq n (mpr μ 17 g) p f lean tone hp hf htk ht hop
        rw [fl_mpr] at e2
        obtain ⟨v, g1, hv, hr⟩ := ih (j + 1) k (cv (fl μ p f lean tone) c :: st) (upd g st.length (cv (fl μ p f lean tone) c)) (by omega) hc' (push h0).2 (onrow_push hf2) hk' (by have := (push h0).1; simp; omega)
        refine ⟨v, g1, by rw [ev, ev1_p h0]; exact hv, ?_⟩
        unfold bm_lawOf_11
        refine ck_g hi1 (sq_r (hL1 g) (if_f hjn (ck_g hib (sq_r evj (if_t h1000 (bd_g e1 (if_f (by decide) (bd_g e2 (ck_g (hid (push h0).1) (sq_g (sq_g (sq_g ?_))))))))))))
        rw [nI_1, nI_1, mpr_mp, hcd]
        exact hr
    · have ht : 1000 ≤ t := by rw [Int32.lt_iff_toInt_lt] at h1000; rw [Int32.le_iff_toInt_le]; omega
      have hnum : t < 2000 ∧ c = t - 1000 := by
        rcases htk with h | ⟨rfl, -⟩ | ⟨rfl, -⟩ | ⟨rfl, -⟩ | ⟨rfl, -⟩ | ⟨rfl, -⟩ | ⟨rfl, -⟩ | ⟨rfl, -⟩ | ⟨rfl, -⟩ | ⟨h, -⟩
        · exact h.2
        iterate 8 exact absurd ht (by decide)
        · rcases h with rfl | rfl | rfl | rfl <;> exact absurd ht (by decide)
      obtain ⟨h0, ecv⟩ := cv_num (φ := fl μ p f lean tone) ht hnum.1
      rw [← hnum.2] at h0 ecv
      obtain ⟨v, g1, hv, hr⟩ := ih (j + 1) k (cv (fl μ p f lean tone) c :: st) (upd g st.length (cv (fl μ p f lean tone) c)) (by omega) hc' (push h0).2 (onrow_push hf2) hk' (by have := (push h0).1; simp; omega)
      refine ⟨v, g1, by rw [ev, ev1_p h0]; exact hv, ?_⟩
      unfold bm_lawOf_11
      refine ck_g hi1 (sq_r (hL1 g) (if_f hjn (ck_g hib (sq_r evj (if_f h1000 (ck_g (hid (push h0).1) (sq_g (sq_g (sq_g ?_)))))))))
      rw [nI_1, nI_1, mpr_mp, hcd, ← hnum.2, ← ecv]
      exact hr
