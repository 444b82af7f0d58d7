/-! how the relation moves from state to state -/
def PO (γ γ1 : CS) : Prop := ∀ q k, pk γ q k = true → pk γ1 q k = true ∧ γ1.2.2.2.2.1 q = γ.2.2.2.2.1 q ∧ γ1.2.2.1 q = γ.2.2.1 q ∧ (γ.2.2.2.2.1 q ≠ 20 → γ1.1 q = γ.1 q)
theorem PO.rf (γ : CS) : PO γ γ := fun _ _ h => ⟨h, rfl, rfl, fun _ => rfl⟩
theorem PO.tr {a b c : CS} (h : PO a b) (g : PO b c) : PO a c := fun q k hq => by
  obtain ⟨h1, h2, h3, h4⟩ := h q k hq
  obtain ⟨g1, g2, g3, g4⟩ := g q k h1
  exact ⟨g1, g2.trans h2, g3.trans h3, fun hn => (g4 (by rw [h2]; exact hn)).trans (h4 hn)⟩
theorem PO_CE {γ γ1 : CS} (h : CE γ γ1) : PO γ γ1 := fun q k hq => by
  have q34 := (pk_s hq).1
  exact ⟨by rw [CE_pk h]; exact hq, by rw [h.2.2.1], h.2.1 q (by omega), fun hn => h.2.2.2 q (by omega) (by omega) (by omega) (fun x => hn x.2)⟩
theorem PO_cp (γ : CS) {a : Nat} (h : a < 34) (k : Nat) (v : Int32) : PO γ (cp γ a k v) := fun q _ hq => by
  have q34 := (pk_s hq).1
  exact ⟨hq, rfl, rfl, fun _ => cp_ne _ _ _ _ (by omega)⟩
theorem PO_cpr (γ : CS) {a : Nat} (h : a < 34) (f : Nat → Int32) : PO γ (cpr γ a f) := fun q _ hq => by
  have q34 := (pk_s hq).1
  exact ⟨hq, rfl, rfl, fun _ => cpr_ne _ _ _ (by omega)⟩
theorem PO_cpj (γ : CS) (a : Nat) (v : Int64) : PO γ (cpj γ a v) := fun q _ hq => ⟨hq, rfl, rfl, fun _ => rfl⟩
theorem PO_cpp (γ : CS) {a : Nat} (h : a < 34) (k : Nat) (v : Option Nat) : PO γ (cpp γ a k v) := fun q _ hq => by
  have q34 := (pk_s hq).1
  exact ⟨hq, rfl, va_up_ne _ _ (by omega), fun _ => rfl⟩
def okC (c i : Nat) : Prop := (c = 0 ∧ 8 ≤ i ∧ i ≤ 11) ∨ (3 ≤ c ∧ c ≤ 6 ∧ i < 4) ∨ (c = 7 ∧ i < 10 ∧ i ≠ 8) ∨ (c = 8 ∧ i < 8) ∨ ((c = 9 ∨ c = 10) ∧ i < 100) ∨ (c = 11 ∧ (i = 1 ∨ i = 2)) ∨ (c = 12 ∧ i < 24)
def okV (a k : Nat) : Prop := (3 ≤ a ∧ a ≤ 7 ∧ k < 6) ∨ ((a = 8 ∨ a = 9) ∧ k < 4) ∨ ((10 ≤ a ∧ a ≤ 13) ∧ k < 8) ∨ (a = 14 ∧ k < 300) ∨ (a = 15 ∧ k < 9) ∨ ((a = 19 ∨ a = 20) ∧ k < 100) ∨ (a = 21 ∧ k < 24) ∨ ((a = 22 ∨ a = 23) ∧ k < 4)
def okS (k : Nat) : Prop := k = 11 ∨ k = 12 ∨ k = 21 ∨ (38 ≤ k ∧ k ≤ 45) ∨ k = 48 ∨ k = 49 ∨ k = 52
def CV (γ : CS) (b : Nat) (γ1 : CS) (b1 : Nat) : Prop := PO γ γ1 ∧ (∀ i, i < 6 → γ1.2.2.1 (b1 + 1) i = γ.2.2.1 (b + 1) i) ∧ (∀ i, i < 8 → γ1.2.2.1 (b1 + 2) i = γ.2.2.1 (b + 2) i) ∧ (∀ c i, okC c i → γ1.1 (b1 + c) i = γ.1 (b + c) i) ∧ γ1.2.1 (b1 + 7) = γ.2.1 (b + 7)
def VV (v v1 : VW) : Prop := (∀ a k, okV a k → v1.1 a k = v.1 a k) ∧ (∀ k, okS k → v1.2.1 k = v.2.1 k) ∧ v1.2.2 = v.2.2
theorem PLr_move {γ γ1 : CS} {b b1 : Nat} {v v1 : VW} {i q w d e h t : Nat} (hP : PO γ γ1) (h1 : γ1.2.2.1 (b1 + 1) i = γ.2.2.1 (b + 1) i) (h2 : ∀ a, 3 ≤ a → a ≤ 7 → v1.1 a i = v.1 a i) (H : PLr γ b v i q w d e h t) : PLr γ1 b1 v1 i q w d e h t := by
  obtain ⟨a1, a2, a3, a4, a5, a6⟩ := H
  obtain ⟨p1, p2, p3, p4⟩ := hP q 3 a2
  have p5 := p4 (by rw [a3]; decide)
  exact ⟨h1.trans a1, p1, p2.trans a3, by rw [p5]; exact a4, by rw [h2 3 (by omega) (by omega), h2 4 (by omega) (by omega), h2 5 (by omega) (by omega), h2 6 (by omega) (by omega), h2 7 (by omega) (by omega)]; exact a5, a6⟩
theorem LOr_move {γ γ1 : CS} {q a s : Nat} {cs : List Int32} (hP : PO γ γ1) (H : LOr γ q a s cs) : LOr γ1 q a s cs := by
  obtain ⟨o1, o2, o3, o4, o5, o6, o7, o8, o9, o10, o11⟩ := H
  obtain ⟨p1, p2, p3, p4⟩ := hP q 1 o1
  obtain ⟨r1, r2, r3, r4⟩ := hP a 9 o4
  obtain ⟨s1, s2, s3, s4⟩ := hP s 9 o6
  exact ⟨p1, p2.trans o2, by rw [p3]; exact o3, r1, by rw [p3]; exact o5, s1, r2.trans o7, s2.trans o8, o9, o10, by rw [r4 (by omega)]; exact o11⟩
theorem LTr_move {v v1 : VW} {i fr : Nat} {cs : List Int32} (hi : i < 8) (h15 : ∀ k, k < 9 → v1.1 15 k = v.1 15 k) (h14 : ∀ k, k < 300 → v1.1 14 k = v.1 14 k) (H : LTr v i fr cs) : LTr v1 i fr cs := by
  obtain ⟨a1, a2, a3, a4⟩ := H
  exact ⟨(h15 _ (by omega)).trans a1, (h15 _ (by omega)).trans a2, a3, fun k hk => by rw [h14 _ (by omega)]; exact a4 k hk⟩
theorem LSr_move {γ γ1 : CS} {b b1 : Nat} {v v1 : VW} {i q a s : Nat} {cs : List Int32} {fr kd f t : Nat} (hi : i < 8) (hP : PO γ γ1) (h1 : γ1.2.2.1 (b1 + 2) i = γ.2.2.1 (b + 2) i) (hV : ∀ a k, okV a k → a ≤ 15 → v1.1 a k = v.1 a k) (H : LSr γ b v i q a s cs fr kd f t) : LSr γ1 b1 v1 i q a s cs fr kd f t := by
  obtain ⟨a1, a2, a3, a4, a5, a6⟩ := H
  obtain ⟨p1, p2, p3, p4⟩ := hP q 1 a2.1
  exact ⟨h1.trans a1, LOr_move hP a2, LTr_move hi (fun k hk => hV 15 k (by unfold okV; omega) (by omega)) (fun k hk => hV 14 k (by unfold okV; omega) (by omega)) a3, by rw [p4 (by rw [a2.2.1]; decide)]; exact a4, by rw [hV 10 i (by unfold okV; omega) (by omega), hV 11 i (by unfold okV; omega) (by omega), hV 12 i (by unfold okV; omega) (by omega)]; exact a5, a6⟩
theorem SPr_mv {γ γ1 : CS} {b b1 : Nat} {v v1 : VW} {np nl : Nat} (hnp : np ≤ 6) (hnl : nl ≤ 8) (c1 : PO γ γ1) (c2 : ∀ i, i < 6 → γ1.2.2.1 (b1 + 1) i = γ.2.2.1 (b + 1) i) (c4 : ∀ c i, okC c i → 7 ≤ c → c ≤ 10 → γ1.1 (b1 + c) i = γ.1 (b + c) i) (c5 : γ1.2.1 (b1 + 7) = γ.2.1 (b + 7)) (v1' : ∀ a k, okV a k → (a ≤ 7 ∨ a = 13 ∨ a = 19 ∨ a = 20) → v1.1 a k = v.1 a k) (v2 : ∀ k, 38 ≤ k → k ≤ 45 → v1.2.1 k = v.2.1 k) (v3 : v1.2.2 = v.2.2) (H : SPr γ b v np nl) : SPr γ1 b1 v1 np nl := by
  obtain ⟨a1, a2, a3, a4, a5, a6⟩ := H
  have e0 := c4 7 0 (by unfold okC; omega) (by omega) (by omega)
  refine ⟨by rw [e0, v2 38 (by omega) (by omega)]; exact a1, by rw [e0]; exact a2, by rw [c5, v3]; exact a3, fun i hi => by rw [c4 8 i (by unfold okC; omega) (by omega) (by omega), v1' 13 i (by unfold okV; omega) (by omega)]; exact a4 i hi, fun i h1 h2 => by rw [c4 8 i (by unfold okC; omega) (by omega) (by omega)]; exact a5 i h1 h2, fun hs => ?_⟩
  obtain ⟨pn, fl, f0, ln, tk, en, tc, q, w, d, e, h, t, r0, r1, r2, r3, r4, r5, r6, r7, r8, r9, r10⟩ := a6 (by rw [← e0]; exact hs)
  refine ⟨pn, fl, f0, ln, tk, en, tc, q, w, d, e, h, t, r0, PLr_move c1 (c2 pn (by omega)) (fun a x y => v1' a pn (by unfold okV; omega) (by omega)) r1, ?_, ?_, ?_, ?_, ?_, ?_, ?_, ?_, ?_⟩
  · rw [c4 7 1 (by unfold okC; omega) (by omega) (by omega), v2 39 (by omega) (by omega)]; exact r2
  · rw [c4 7 2 (by unfold okC; omega) (by omega) (by omega), v2 44 (by omega) (by omega)]; exact r3
  · rw [c4 7 3 (by unfold okC; omega) (by omega) (by omega), v2 41 (by omega) (by omega)]; exact r4
  · rw [c4 7 4 (by unfold okC; omega) (by omega) (by omega), v2 40 (by omega) (by omega)]; exact r5
  · rw [c4 7 5 (by unfold okC; omega) (by omega) (by omega)]; exact r6
  · rw [c4 7 6 (by unfold okC; omega) (by omega) (by omega), v2 42 (by omega) (by omega)]; exact r7
  · rw [c4 7 7 (by unfold okC; omega) (by omega) (by omega), v2 43 (by omega) (by omega)]; exact r8
  · rw [c4 7 9 (by unfold okC; omega) (by omega) (by omega), v2 45 (by omega) (by omega)]; exact r9
  · intro i hi
    rw [c4 9 i (by unfold okC; omega) (by omega) (by omega), c4 10 i (by unfold okC; omega) (by omega) (by omega), v1' 19 i (by unfold okV; omega) (by omega), v1' 20 i (by unfold okV; omega) (by omega)]
    exact r10 i hi
theorem SPr_move {γ γ1 : CS} {b b1 : Nat} {v v1 : VW} {np nl : Nat} (hnp : np ≤ 6) (hnl : nl ≤ 8) (hC : CV γ b γ1 b1) (hV : VV v v1) (H : SPr γ b v np nl) : SPr γ1 b1 v1 np nl := SPr_mv hnp hnl hC.1 hC.2.1 (fun c i h _ _ => hC.2.2.2.1 c i h) hC.2.2.2.2 (fun a k h _ => hV.1 a k h) (fun k h1 h2 => hV.2.1 k (by unfold okS; omega)) hV.2.2 H
theorem ROr_move {γ γ1 : CS} {b b1 : Nat} {v v1 : VW} (c4 : ∀ c i, okC c i → 11 ≤ c → γ1.1 (b1 + c) i = γ.1 (b + c) i) (v1' : ∀ k, k < 24 → v1.1 21 k = v.1 21 k) (v2 : ∀ k, k = 48 ∨ k = 49 → v1.2.1 k = v.2.1 k) (H : ROr γ b v) : ROr γ1 b1 v1 := by
  obtain ⟨len, sl, h1, h2, h3, h4, h5⟩ := H
  refine ⟨len, sl, h1, h2, by rw [c4 11 1 (by unfold okC; omega) (by omega), v2 48 (by omega)]; exact h3, by rw [c4 11 2 (by unfold okC; omega) (by omega), v2 49 (by omega)]; exact h4, fun i hi => ?_⟩
  rw [c4 12 i (by unfold okC; omega) (by omega), v1' i (by omega)]
  exact h5 i hi
theorem RBn_move {γ γ1 : CS} {b b1 : Nat} {v v1 : VW} {np nl ng : Nat} (hC : CV γ b γ1 b1) (hV : VV v v1) (H : RBn γ b v np nl ng) : RBn γ1 b1 v1 np nl ng := by
  obtain ⟨a1, a2, a3, a4, a5, a6, a7, a8, a9, a10, a11, a12⟩ := H
  obtain ⟨c1, c2, c3, c4, c5⟩ := id hC
  obtain ⟨v1', v2, v3⟩ := id hV
  have f8 := c4 0 8 (by unfold okC; omega)
  have f9 := c4 0 9 (by unfold okC; omega)
  have f10 := c4 0 10 (by unfold okC; omega)
  have f11 := c4 0 11 (by unfold okC; omega)
  rw [Nat.add_zero, Nat.add_zero] at f8 f9 f10 f11
  refine ⟨a1, by rw [f8, v2 11 (by unfold okS; omega)]; exact a2, by rw [f9, v2 21 (by unfold okS; omega)]; exact a3, by rw [f10, v2 52 (by unfold okS; omega)]; exact a4, by rw [f11, v2 12 (by unfold okS; omega)]; exact a5, ?_, ?_, by rw [v1' 15 0 (by unfold okV; omega)]; exact a8, ?_, ?_, SPr_move a1.1 a1.2.1 hC hV a11, ROr_move (fun c i h _ => c4 c i h) (fun k hk => v1' 21 k (by unfold okV; omega)) (fun k hk => v2 k (by unfold okS; omega)) a12⟩
  · intro i hi
    obtain ⟨q, w, d, e, h, t, H⟩ := a6 i hi
    exact ⟨q, w, d, e, h, t, PLr_move c1 (c2 i (by omega)) (fun a x y => v1' a i (by unfold okV; omega)) H⟩
  · intro i hi
    obtain ⟨q, a, s, cs, fr, kd, f, t, H⟩ := a7 i hi
    exact ⟨q, a, s, cs, fr, kd, f, t, LSr_move (by omega) c1 (c3 i (by omega)) (fun a k h _ => v1' a k h) H⟩
  · intro f hf
    rw [c4 3 f (by unfold okC; omega), c4 4 f (by unfold okC; omega), v1' 8 f (by unfold okV; omega), v1' 9 f (by unfold okV; omega)]
    exact a9 f hf
  · intro i hi
    rw [c4 5 i (by unfold okC; omega), c4 6 i (by unfold okC; omega), v1' 22 i (by unfold okV; omega), v1' 23 i (by unfold okV; omega)]
    exact a10 i hi
theorem RB_move {γ γ1 : CS} {b b1 : Nat} {v v1 : VW} (hC : CV γ b γ1 b1) (hV : VV v v1) (H : RB γ b v) : RB γ1 b1 v1 := by
  obtain ⟨np, nl, ng, H⟩ := H
  exact ⟨np, nl, ng, RBn_move hC hV H⟩
theorem VV.rf (v : VW) : VV v v := ⟨fun _ _ _ => rfl, fun _ _ => rfl, rfl⟩
theorem VV_img {μ μ1 : MS} (h : μ1.1 24 = μ.1 24) (h2 : μ1.2 57 = μ.2 57) : VV (img μ) (img μ1) := by
  unfold img
  rw [h, h2]
  exact VV.rf _
/-- nothing of the bench at b is touched -/
theorem CV_id {γ γ1 : CS} (b : Nat) (hP : PO γ γ1) (h1 : γ1.2.2.1 (b + 1) = γ.2.2.1 (b + 1)) (h2 : γ1.2.2.1 (b + 2) = γ.2.2.1 (b + 2)) (h3 : ∀ c, c ≤ 12 → γ1.1 (b + c) = γ.1 (b + c)) (h4 : γ1.2.1 (b + 7) = γ.2.1 (b + 7)) : CV γ b γ1 b := ⟨hP, fun i _ => by rw [h1], fun i _ => by rw [h2], fun c i h => by rw [h3 c (by unfold okC at h; omega)], h4⟩
theorem VV_ME {μ μ1 : MS} (h : ME μ μ1) : VV (live μ) (live μ1) := ⟨fun a k hk => by show μ1.1 a k = μ.1 a k; rw [h.2.1 a (by unfold okV at hk; omega) (by unfold okV at hk; omega) (by unfold okV at hk; omega)], fun k hk => h.2.2 k (by unfold okS at hk; omega), by show μ1.2 46 = μ.2 46; rw [h.1]⟩
theorem CV_CE {γ γ1 : CS} {b : Nat} (hb : b ≤ 18) (h : CE γ γ1) : CV γ b γ1 b := CV_id b (PO_CE h) (h.2.1 _ (by omega)) (h.2.1 _ (by omega)) (fun c hc => h.2.2.2 _ (by omega) (by omega) (by omega) (by omega)) (by rw [h.1])
theorem Rl_eng {γ γ1 : CS} {μ μ1 : MS} (hC : CE γ γ1) (hM : ME μ μ1) (hcw : cwf γ1) (H : Rl γ μ) : Rl γ1 μ1 := by
  obtain ⟨h1, h2, h3, h4, h5, h6, h7, h8⟩ := H
  have eP : ∀ a, a ≠ 31 → γ1.2.2.1 a = γ.2.2.1 a := hC.2.1
  have eI : ∀ a, a < 31 → γ1.1 a = γ.1 a := fun a ha => hC.2.2.2 a (by omega) (by omega) (by omega) (by omega)
  refine ⟨by rw [hC.2.2.1]; exact h1, hcw, ?_, RB_move (CV_CE (by omega) hC) (VV_ME hM) h4, ?_, ?_, ?_, ?_⟩
  · intro i q
    rw [eP 6 (by decide), eP 19 (by decide), eP 7 (by decide), eP 20 (by decide), CE_pk hC, CE_pk hC]
    exact h3 i q
  · unfold TXr at *
    rw [eI 1 (by omega), eI 2 (by omega), hM.2.2 9 (by omega), hM.2.1 2 (by omega) (by omega) (by omega)]
    exact h5
  · unfold RFr at *
    rw [eI 4 (by omega), hM.2.1 1 (by omega) (by omega) (by omega)]
    exact h6
  · rw [eI 0 (by omega), hM.2.2 54 (by omega)]
    exact h7
  · rw [eI 0 (by omega)]
    exact fun h => RB_move (CV_CE (by omega) hC) (VV_img (hM.2.1 24 (by omega) (by omega) (by omega)) (by rw [hM.1])) (h8 h)
theorem RB_in {γ γ1 : CS} {b : Nat} {v v1 : VW} {np nl ng ng1 : Nat} (H : RBn γ b v np nl ng) (hP : PO γ γ1) (c2 : ∀ i, i < 6 → γ1.2.2.1 (b + 1) i = γ.2.2.1 (b + 1) i) (c3 : ∀ i, i < 8 → γ1.2.2.1 (b + 2) i = γ.2.2.1 (b + 2) i) (hv : ∀ a k, okV a k → (a ≤ 7 ∨ 10 ≤ a ∧ a ≤ 15 ∧ a ≠ 13) → v1.1 a k = v.1 a k) (f8 : γ1.1 b 8 = γ.1 b 8) (f9 : γ1.1 b 9 = γ.1 b 9) (s11 : v1.2.1 11 = v.2.1 11) (s21 : v1.2.1 21 = v.2.1 21) (hng : ng1 ≤ 4) (hgs : γ1.1 b 10 = nI ng1 ∧ v1.2.1 52 = nI ng1) (hair : γ1.1 b 11 = v1.2.1 12 ∧ (γ1.1 b 11 = 0 ∨ γ1.1 b 11 = 1)) (hfl : ∀ f, f < 4 → ∃ h t : Nat, h ≤ 9 ∧ t ≤ 9 ∧ (γ1.1 (b + 3) f = nI h ∧ v1.1 8 f = nI h) ∧ (γ1.1 (b + 4) f = nI t ∧ v1.1 9 f = nI t)) (hlg : ∀ i, i < ng1 → ∃ f t : Nat, f < 4 ∧ 1 ≤ t ∧ t ≤ 999 ∧ (γ1.1 (b + 5) i = nI f ∧ v1.1 22 i = nI f) ∧ (γ1.1 (b + 6) i = nI t ∧ v1.1 23 i = nI t)) (hsp : SPr γ1 b v1 np nl) (hro : ROr γ1 b v1) : RBn γ1 b v1 np nl ng1 := by
  obtain ⟨a1, a2, a3, a4, a5, a6, a7, a8, a9, a10, a11, a12⟩ := H
  refine ⟨⟨a1.1, a1.2.1, hng⟩, by rw [f8, s11]; exact a2, by rw [f9, s21]; exact a3, hgs, hair, ?_, ?_, by rw [hv 15 0 (by unfold okV; omega) (by omega)]; exact a8, hfl, hlg, hsp, hro⟩
  · intro i hi
    obtain ⟨q, w, d, e, h, t, H⟩ := a6 i hi
    exact ⟨q, w, d, e, h, t, PLr_move hP (c2 i (by omega)) (fun a x y => hv a i (by unfold okV; omega) (by omega)) H⟩
  · intro i hi
    obtain ⟨q, a, s, cs, fr, kd, f, t, a1', a2', a3', a4', a5', a6'⟩ := a7 i hi
    obtain ⟨p1, p2, p3, p4⟩ := hP q 1 a2'.1
    exact ⟨q, a, s, cs, fr, kd, f, t, (c3 i (by omega)).trans a1', LOr_move hP a2', LTr_move (by omega) (fun k hk => hv 15 k (by unfold okV; omega) (by omega)) (fun k hk => hv 14 k (by unfold okV; omega) (by omega)) a3', by rw [p4 (by rw [a2'.2.1]; decide)]; exact a4', by rw [hv 10 i (by unfold okV; omega) (by omega), hv 11 i (by unfold okV; omega) (by omega), hv 12 i (by unfold okV; omega) (by omega)]; exact a5', a6'⟩
/-- the live bench alone has changed, and no reference -/
theorem Rl_live {γ γ1 : CS} {μ μ1 : MS} (H : Rl γ μ) (h22 : γ1.2.2 = γ.2.2) (hI : ∀ a, (a ≤ 4 ∨ 18 ≤ a ∧ a ≤ 30) → γ1.1 a = γ.1 a) (hPO : PO γ γ1) (hJ : γ1.2.1 25 = γ.2.1 25) (h24 : μ1.1 24 = μ.1 24) (hm1 : μ1.1 1 = μ.1 1) (hm2 : μ1.1 2 = μ.1 2) (s9 : μ1.1 0 9 = μ.1 0 9) (s54 : μ1.1 0 54 = μ.1 0 54) (h57 : μ1.2 57 = μ.2 57) (hB : RB γ1 5 (live μ1)) : Rl γ1 μ1 := by
  obtain ⟨h1, h2, h3, h4, h5, h6, h7, h8⟩ := H
  refine ⟨by rw [h22]; exact h1, ?_, ?_, hB, ?_, ?_, ?_, ?_⟩
  · unfold cwf at *; rw [h22]; exact h2
  · unfold ARr pk at *; rw [h22]; exact h3
  · unfold TXr at *; rw [hI 1 (by omega), hI 2 (by omega), s9, hm2]; exact h5
  · unfold RFr at *; rw [hI 4 (by omega), hm1]; exact h6
  · rw [hI 0 (by omega), s54]; exact h7
  · rw [hI 0 (by omega)]
    exact fun h => RB_move (CV_id 18 hPO (by rw [h22]) (by rw [h22]) (fun c hc => hI _ (by omega)) hJ) (VV_img h24 h57) (h8 h)
/-- the benches haven't changed -/
theorem Rl_base {γ γ1 : CS} {μ μ1 : MS} (H : Rl γ μ) (h2 : γ1.2 = γ.2) (hI : ∀ a, 5 ≤ a → γ1.1 a = γ.1 a) (hM : ∀ a, 3 ≤ a → μ1.1 a = μ.1 a) (hk : ∀ k, okS k → μ1.1 0 k = μ.1 0 k) (hJ : μ1.2 = μ.2) (f5 : γ1.1 0 5 = γ.1 0 5) (s54 : μ1.1 0 54 = μ.1 0 54) (hT : TXr γ1 μ1) (hF : RFr γ1 μ1) : Rl γ1 μ1 := by
  obtain ⟨h1, hw, h3, h4, h5, h6, h7, h8⟩ := H
  have hPO : PO γ γ1 := fun q k hq => ⟨by unfold pk at *; rw [h2]; exact hq, by rw [h2], by rw [h2], fun _ => hI q (by have := (pk_s hq).1; omega)⟩
  refine ⟨by rw [h2]; exact h1, by unfold cwf at *; rw [h2]; exact hw, by unfold ARr pk at *; rw [h2]; exact h3, ?_, hT, hF, by rw [f5, s54]; exact h7, ?_⟩
  · exact RB_move (v := live μ) (CV_id 5 hPO (by rw [h2]) (by rw [h2]) (fun c _ => hI _ (by omega)) (by rw [h2])) ⟨fun a k h => by show μ1.1 a k = μ.1 a k; rw [hM a (by unfold okV at h; omega)], hk, by show μ1.2 46 = μ.2 46; rw [hJ]⟩ h4
  · rw [f5]
    exact fun h => RB_move (CV_id 18 hPO (by rw [h2]) (by rw [h2]) (fun c _ => hI _ (by omega)) (by rw [h2])) (VV_img (hM 24 (by omega)) (by rw [hJ])) (h8 h)
