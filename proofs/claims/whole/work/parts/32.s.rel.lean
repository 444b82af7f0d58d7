/-! what the two states have in common -/
abbrev VW : Type := (Nat → Nat → Int32) × (Nat → Int32) × Int64
def live (μ : MS) : VW := (μ.1, μ.1 0, μ.2 46)
def offA (a : Nat) : Nat := match a with
  | 3 => 0
  | 4 => 7
  | 5 => 14
  | 6 => 21
  | 7 => 28
  | 8 => 35
  | 9 => 39
  | 10 => 43
  | 11 => 52
  | 12 => 61
  | 13 => 70
  | 14 => 79
  | 15 => 379
  | 19 => 389
  | 20 => 489
  | 21 => 589
  | 22 => 613
  | 23 => 617
  | _ => 700
def offS (k : Nat) : Nat := match k with
  | 11 => 621
  | 12 => 622
  | 21 => 623
  | 38 => 624
  | 39 => 625
  | 40 => 626
  | 41 => 627
  | 42 => 628
  | 43 => 629
  | 44 => 630
  | 45 => 631
  | 48 => 632
  | 49 => 633
  | 52 => 634
  | _ => 700
def img (μ : MS) : VW := (fun a k => μ.1 24 (offA a + k), fun k => μ.1 24 (offS k), μ.2 57)
/-- a tone -/
def TN (l d t : Nat) : Nat := 9000 / (l + 10) * (100 + t) / (10 + d / 10)
theorem TN_le {l d t : Nat} (ht : t ≤ 9) : TN l d t ≤ 9810 := by
  unfold TN
  have h1 : 9000 / (l + 10) ≤ 900 := by
    have : 9000 / (l + 10) ≤ 9000 / 10 := Nat.div_le_div_left (by omega) (by omega)
    omega
  have h2 : 9000 / (l + 10) * (100 + t) ≤ 900 * 109 := Nat.mul_le_mul h1 (by omega)
  have h3 : 9000 / (l + 10) * (100 + t) / (10 + d / 10) ≤ 900 * 109 / (10 + d / 10) := Nat.div_le_div_right h2
  have h4 : 900 * 109 / (10 + d / 10) ≤ 900 * 109 / 10 := Nat.div_le_div_left (by omega) (by omega)
  omega
/-- a plate -/
def PLr (γ : CS) (b : Nat) (v : VW) (i q w d e h t : Nat) : Prop := γ.2.2.1 (b + 1) i = some q ∧ pk γ q 3 = true ∧ γ.2.2.2.2.1 q = 0 ∧ (γ.1 q 0 = nI w ∧ γ.1 q 1 = nI d ∧ γ.1 q 2 = nI e ∧ γ.1 q 3 = nI h ∧ γ.1 q 4 = nI t) ∧ (v.1 3 i = nI w ∧ v.1 4 i = nI d ∧ v.1 5 i = nI e ∧ v.1 6 i = nI h ∧ v.1 7 i = nI t) ∧ (1 ≤ w ∧ w ≤ 999 ∧ 1 ≤ d ∧ d ≤ 99 ∧ e ≤ 9 ∧ h ≤ 9 ∧ t ≤ 9)
/-- a loss of the class: q the object, a its law's codes, s its stack -/
def LOr (γ : CS) (q a s : Nat) (cs : List Int32) : Prop := pk γ q 1 = true ∧ γ.2.2.2.2.1 q = 0 ∧ γ.2.2.1 q 3 = some a ∧ pk γ a 9 = true ∧ γ.2.2.1 q 4 = some s ∧ pk γ s 9 = true ∧ γ.2.2.2.2.1 a = cs.length ∧ γ.2.2.2.2.1 s = 20 ∧ cs.length ≤ 19 ∧ dp cs 0 = some 1 ∧ ∀ k, k < cs.length → γ.1 a k = cs.getD k 0
/-- its law in the reference's row of tokens -/
def LTr (v : VW) (i fr : Nat) (cs : List Int32) : Prop := v.1 15 i = nI fr ∧ v.1 15 (i + 1) = nI (fr + cs.length) ∧ fr + cs.length ≤ 20 * (i + 1) ∧ ∀ k, k < cs.length → tkc (v.1 14 (fr + k)) (cs.getD k 0)
def LSr (γ : CS) (b : Nat) (v : VW) (i q a s : Nat) (cs : List Int32) (fr kd f t : Nat) : Prop := γ.2.2.1 (b + 2) i = some q ∧ LOr γ q a s cs ∧ LTr v i fr cs ∧ (γ.1 q 0 = nI kd ∧ γ.1 q 1 = nI f ∧ γ.1 q 2 = nI t) ∧ (v.1 10 i = nI kd ∧ v.1 11 i = nI f ∧ v.1 12 i = nI t) ∧ (kd ≤ 6 ∧ f ≤ 9999 ∧ t ≤ 9999)
/-- the plate that spins -/
def SPr (γ : CS) (b : Nat) (v : VW) (np nl : Nat) : Prop := γ.1 (b + 7) 0 = v.2.1 38 ∧ (γ.1 (b + 7) 0 = 0 ∨ γ.1 (b + 7) 0 = 1) ∧ γ.2.1 (b + 7) = v.2.2 ∧ (∀ i, i < nl → γ.1 (b + 8) i = v.1 13 i) ∧ (∀ i, nl ≤ i → i < 8 → γ.1 (b + 8) i = 0) ∧ (γ.1 (b + 7) 0 = 1 → ∃ pn fl f0 ln tk en tc q w d e h t : Nat, (pn < np ∧ fl ≤ 9000 ∧ f0 < 4 ∧ ln ≤ 9000 ∧ tk + (1 - en) ≤ 9999 ∧ en ≤ 4 ∧ tc ≤ 100) ∧ PLr γ b v pn q w d e h t ∧ (γ.1 (b + 7) 1 = nI pn ∧ v.2.1 39 = nI pn) ∧ (γ.1 (b + 7) 2 = nI fl ∧ v.2.1 44 = nI fl) ∧ (γ.1 (b + 7) 3 = nI f0 ∧ v.2.1 41 = nI f0) ∧ (γ.1 (b + 7) 4 = nI ln ∧ v.2.1 40 = nI ln) ∧ γ.1 (b + 7) 5 = nI (TN ln d t) ∧ (γ.1 (b + 7) 6 = nI tk ∧ v.2.1 42 = nI tk) ∧ (γ.1 (b + 7) 7 = nI en ∧ v.2.1 43 = nI en) ∧ (γ.1 (b + 7) 9 = nI tc ∧ v.2.1 45 = nI tc) ∧ (∀ i, i < tc → γ.1 (b + 9) i = v.1 19 i ∧ γ.1 (b + 10) i = v.1 20 i))
/-- the row of tones -/
def ROr (γ : CS) (b : Nat) (v : VW) : Prop := ∃ len sl : Nat, len ≤ 24 ∧ sl ≤ 999 ∧ (γ.1 (b + 11) 1 = nI len ∧ v.2.1 48 = nI len) ∧ (γ.1 (b + 11) 2 = nI sl ∧ v.2.1 49 = nI sl) ∧ ∀ i, i < len → γ.1 (b + 12) i = v.1 21 i ∧ (γ.1 (b + 12) i = -1 ∨ ∃ t : Nat, t ≤ 99999 ∧ γ.1 (b + 12) i = nI t)
/-- a bench, with so many plates, losses, legs -/
def RBn (γ : CS) (b : Nat) (v : VW) (np nl ng : Nat) : Prop := (np ≤ 6 ∧ nl ≤ 8 ∧ ng ≤ 4) ∧ (γ.1 b 8 = nI np ∧ v.2.1 11 = nI np) ∧ (γ.1 b 9 = nI nl ∧ v.2.1 21 = nI nl) ∧ (γ.1 b 10 = nI ng ∧ v.2.1 52 = nI ng) ∧ (γ.1 b 11 = v.2.1 12 ∧ (γ.1 b 11 = 0 ∨ γ.1 b 11 = 1)) ∧ (∀ i, i < np → ∃ q w d e h t, PLr γ b v i q w d e h t) ∧ (∀ i, i < nl → ∃ q a s cs fr kd f t, LSr γ b v i q a s cs fr kd f t) ∧ v.1 15 0 = 0 ∧ (∀ f, f < 4 → ∃ h t : Nat, h ≤ 9 ∧ t ≤ 9 ∧ (γ.1 (b + 3) f = nI h ∧ v.1 8 f = nI h) ∧ (γ.1 (b + 4) f = nI t ∧ v.1 9 f = nI t)) ∧ (∀ i, i < ng → ∃ f t : Nat, f < 4 ∧ 1 ≤ t ∧ t ≤ 999 ∧ (γ.1 (b + 5) i = nI f ∧ v.1 22 i = nI f) ∧ (γ.1 (b + 6) i = nI t ∧ v.1 23 i = nI t)) ∧ SPr γ b v np nl ∧ ROr γ b v
def RB (γ : CS) (b : Nat) (v : VW) : Prop := ∃ np nl ng, RBn γ b v np nl ng
/-- all references of the four rows are of what they should be -/
def ARr (γ : CS) : Prop := ∀ i q, (γ.2.2.1 6 i = some q → pk γ q 3 = true) ∧ (γ.2.2.1 19 i = some q → pk γ q 3 = true) ∧ (γ.2.2.1 7 i = some q → pk γ q 1 = true) ∧ (γ.2.2.1 20 i = some q → pk γ q 1 = true)
/-- the text, the refusals -/
def TXr (γ : CS) (μ : MS) : Prop := ∃ len : Nat, len ≤ 20 ∧ (γ.1 1 2 = nI len ∧ μ.1 0 9 = nI len) ∧ ∀ i, i < len → γ.1 2 i = μ.1 2 i ∧ ∃ t : Nat, t ≤ 255 ∧ γ.1 2 i = nI t
def RFr (γ : CS) (μ : MS) : Prop := ∀ k, 1 ≤ k → k ≤ 6 → γ.1 4 k = μ.1 1 k
def Rl (γ : CS) (μ : MS) : Prop := 34 ≤ γ.2.2.2.2.2 ∧ cwf γ ∧ ARr γ ∧ RB γ 5 (live μ) ∧ TXr γ μ ∧ RFr γ μ ∧ (γ.1 0 5 = μ.1 0 54 ∧ (γ.1 0 5 = 0 ∨ γ.1 0 5 = 1)) ∧ (γ.1 0 5 = 1 → RB γ 18 (img μ))
/-! what the engine changes, and what it leaves -/
def CE (γ γ1 : CS) : Prop := γ1.2.1 = γ.2.1 ∧ (∀ a, a ≠ 31 → γ1.2.2.1 a = γ.2.2.1 a) ∧ γ1.2.2.2 = γ.2.2.2 ∧ (∀ a, a ≠ 31 → a ≠ 32 → a ≠ 33 → ¬ (34 ≤ a ∧ γ.2.2.2.2.1 a = 20) → γ1.1 a = γ.1 a)
def ME (μ μ1 : MS) : Prop := μ1.2 = μ.2 ∧ (∀ a, a ≠ 0 → a ≠ 17 → a ≠ 18 → μ1.1 a = μ.1 a) ∧ ∀ k, (k < 25 ∨ 35 < k) → μ1.1 0 k = μ.1 0 k
theorem CE.rf (γ : CS) : CE γ γ := ⟨rfl, fun _ _ => rfl, rfl, fun _ _ _ _ _ => rfl⟩
theorem ME.rf (μ : MS) : ME μ μ := ⟨rfl, fun _ _ _ _ => rfl, fun _ _ => rfl⟩
theorem CE.tr {a b c : CS} (h : CE a b) (g : CE b c) : CE a c := ⟨g.1.trans h.1, fun x hx => (g.2.1 x hx).trans (h.2.1 x hx), g.2.2.1.trans h.2.2.1, fun x h1 h2 h3 h4 => (g.2.2.2 x h1 h2 h3 (by rw [h.2.2.1]; exact h4)).trans (h.2.2.2 x h1 h2 h3 h4)⟩
theorem ME.tr {a b c : MS} (h : ME a b) (g : ME b c) : ME a c := ⟨g.1.trans h.1, fun x h1 h2 h3 => (g.2.1 x h1 h2 h3).trans (h.2.1 x h1 h2 h3), fun k hk => (g.2.2 k hk).trans (h.2.2 k hk)⟩
theorem CE_cp {γ : CS} {a : Nat} (h : a = 31 ∨ a = 32 ∨ a = 33) (k : Nat) (v : Int32) : CE γ (cp γ a k v) := ⟨rfl, fun _ _ => rfl, rfl, fun x h1 h2 h3 _ => cp_ne _ _ _ _ (by rcases h with rfl | rfl | rfl <;> assumption)⟩
theorem CE_cpp {γ : CS} (k : Nat) (v : Option Nat) : CE γ (cpp γ 31 k v) := ⟨rfl, fun a h => va_up_ne _ _ h, rfl, fun _ _ _ _ _ => rfl⟩
theorem CE_st {γ : CS} {s : Nat} (h : pk γ s 9 = true) (h20 : γ.2.2.2.2.1 s = 20) (f : Nat → Int32) : CE γ (cpr γ s f) := ⟨rfl, fun _ _ => rfl, rfl, fun x _ _ _ h4 => cpr_ne _ _ _ (fun e => h4 (by subst e; exact ⟨(pk_s h).1, h20⟩))⟩
theorem ME_mp0 {μ : MS} {k : Nat} (h : 25 ≤ k ∧ k ≤ 35) (v : Int32) : ME μ (mp μ 0 k v) := ⟨rfl, fun a h1 _ _ => mp_ne _ _ _ _ h1, fun j hj => by rw [mp_1, if_neg (by omega)]⟩
theorem ME_mpA {μ : MS} {a : Nat} (h : a = 17 ∨ a = 18) (k : Nat) (v : Int32) : ME μ (mp μ a k v) := ⟨rfl, fun x _ h2 h3 => mp_ne _ _ _ _ (by rcases h with rfl | rfl <;> assumption), fun j _ => by rw [mp_ne _ _ _ _ (by omega)]⟩
theorem ME_st (μ : MS) (f : Nat → Int32) : ME μ (mpr μ 17 f) := ⟨rfl, fun x _ h2 _ => mpr_ne _ _ _ h2, fun j _ => by rw [mpr_ne _ _ _ (by decide)]⟩
theorem CE_pk {γ γ1 : CS} (h : CE γ γ1) (q k : Nat) : pk γ1 q k = pk γ q k := by
  unfold pk
  rw [h.2.2.1]
