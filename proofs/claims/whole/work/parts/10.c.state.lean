abbrev CS : Type := (Nat → Nat → Int32) × (Nat → Int64) × (Nat → Nat → Option Nat) × (Nat → Nat) × (Nat → Nat) × Nat
abbrev CY : Type := ClassId × ClassId × ClassId
abbrev CZ : Type := Nat × (Nat → Nat) × (Nat → Nat)
def cf_0 (ad : Nat → Nat) (i : Nat → Int32) (j : Int64) (p : Nat → Option Nat) : List Value := [.ref (ad 1), .ref (ad 4), .ref (ad 5), .ref (ad 18), .ref (ad 31), .int (i 5)]
def cf_1 (ad : Nat → Nat) (i : Nat → Int32) (j : Int64) (p : Nat → Option Nat) : List Value := [.ref (ad 2), .ref (ad 3), .int (i 2), .int (i 3), .int (i 4), .int (i 5)]
def cf_5 (ad : Nat → Nat) (i : Nat → Int32) (j : Int64) (p : Nat → Option Nat) : List Value := [.ref (ad 6), .ref (ad 7), .ref (ad 8), .ref (ad 9), .ref (ad 10), .ref (ad 11), .ref (ad 12), .ref (ad 16), .int (i 8), .int (i 9), .int (i 10), .int (i 11)]
def cf_12 (ad : Nat → Nat) (i : Nat → Int32) (j : Int64) (p : Nat → Option Nat) : List Value := [.int (i 0), .int (i 1), .int (i 2), .int (i 3), .int (i 4), .int (i 5), .int (i 6), .int (i 7), .long j, .int (i 9), .ref (ad 13), .ref (ad 14), .ref (ad 15)]
def cf_16 (ad : Nat → Nat) (i : Nat → Int32) (j : Int64) (p : Nat → Option Nat) : List Value := [.ref (ad 17), .int (i 1), .int (i 2)]
def cf_18 (ad : Nat → Nat) (i : Nat → Int32) (j : Int64) (p : Nat → Option Nat) : List Value := [.ref (ad 19), .ref (ad 20), .ref (ad 21), .ref (ad 22), .ref (ad 23), .ref (ad 24), .ref (ad 25), .ref (ad 29), .int (i 8), .int (i 9), .int (i 10), .int (i 11)]
def cf_25 (ad : Nat → Nat) (i : Nat → Int32) (j : Int64) (p : Nat → Option Nat) : List Value := [.int (i 0), .int (i 1), .int (i 2), .int (i 3), .int (i 4), .int (i 5), .int (i 6), .int (i 7), .long j, .int (i 9), .ref (ad 26), .ref (ad 27), .ref (ad 28)]
def cf_29 (ad : Nat → Nat) (i : Nat → Int32) (j : Int64) (p : Nat → Option Nat) : List Value := [.ref (ad 30), .int (i 1), .int (i 2)]
def cf_31 (ad : Nat → Nat) (i : Nat → Int32) (j : Int64) (p : Nat → Option Nat) : List Value := [.ref (ad 5), .ref (ad 32), .ref (ad 33), .int (i 3), .int (i 4), .int (i 5), .int (i 6), .int (i 7), .int (i 8), .int (i 9), .int (i 10), va_rf (Option.map ad (p 11)), .int (i 12)]
def cf_P (i : Nat → Int32) : List Value := [.int (i 0), .int (i 1), .int (i 2), .int (i 3), .int (i 4)]
def cf_L (ad : Nat → Nat) (i : Nat → Int32) (p : Nat → Option Nat) : List Value := [.int (i 0), .int (i 1), .int (i 2), va_rf (Option.map ad (p 3)), va_rf (Option.map ad (p 4))]
def cfx (ad : Nat → Nat) (cy : CY) (q : Nat) (i : Nat → Int32) (j : Int64) (p : Nat → Option Nat) : va_E := match q with
  | 0 => .inr (7, cf_0 ad i j p)
  | 1 => .inr (6, cf_1 ad i j p)
  | 2 => .inl (cy.1, 20, .inl i)
  | 3 => .inl (cy.1, 20, .inl i)
  | 4 => .inl (cy.1, 7, .inl i)
  | 5 => .inr (0, cf_5 ad i j p)
  | 6 => .inl (cy.2.2, 6, .inr (.inr (.inr (.inr (fun x => Option.map ad (p x))))))
  | 7 => .inl (cy.2.1, 8, .inr (.inr (.inr (.inr (fun x => Option.map ad (p x))))))
  | 8 => .inl (cy.1, 4, .inl i)
  | 9 => .inl (cy.1, 4, .inl i)
  | 10 => .inl (cy.1, 4, .inl i)
  | 11 => .inl (cy.1, 4, .inl i)
  | 12 => .inr (5, cf_12 ad i j p)
  | 13 => .inl (cy.1, 8, .inl i)
  | 14 => .inl (cy.1, 100, .inl i)
  | 15 => .inl (cy.1, 100, .inl i)
  | 16 => .inr (4, cf_16 ad i j p)
  | 17 => .inl (cy.1, 24, .inl i)
  | 18 => .inr (0, cf_18 ad i j p)
  | 19 => .inl (cy.2.2, 6, .inr (.inr (.inr (.inr (fun x => Option.map ad (p x))))))
  | 20 => .inl (cy.2.1, 8, .inr (.inr (.inr (.inr (fun x => Option.map ad (p x))))))
  | 21 => .inl (cy.1, 4, .inl i)
  | 22 => .inl (cy.1, 4, .inl i)
  | 23 => .inl (cy.1, 4, .inl i)
  | 24 => .inl (cy.1, 4, .inl i)
  | 25 => .inr (5, cf_25 ad i j p)
  | 26 => .inl (cy.1, 8, .inl i)
  | 27 => .inl (cy.1, 100, .inl i)
  | 28 => .inl (cy.1, 100, .inl i)
  | 29 => .inr (4, cf_29 ad i j p)
  | 30 => .inl (cy.1, 24, .inl i)
  | 31 => .inr (2, cf_31 ad i j p)
  | 32 => .inl (cy.1, 8, .inl i)
  | 33 => .inl (cy.1, 8, .inl i)
  | _ => .inl (cy.1, 0, .inl i)
def ce (ad : Nat → Nat) (cy : CY) (q : Nat) (i : Nat → Int32) (j : Int64) (p : Nat → Option Nat) (k n : Nat) : va_E := if q < 34 then cfx ad cy q i j p else if k = 3 then .inr (3, cf_P i) else if k = 1 then .inr (1, cf_L ad i p) else .inl (cy.1, n, .inl i)
def cel (ad : Nat → Nat) (cy : CY) (σ : CS) (q : Nat) : va_E := ce ad cy q (σ.1 q) (σ.2.1 q) (σ.2.2.1 q) (σ.2.2.2.1 q) (σ.2.2.2.2.1 q)
def cw (ad : Nat → Nat) (cy : CY) (σ : CS) : va_W := (List.range σ.2.2.2.2.2).map (fun q => (ad q, cel ad cy σ q))
def cp (σ : CS) (a k : Nat) (v : Int32) : CS := (va_up σ.1 a (upd (σ.1 a) k v), σ.2)
def cpj (σ : CS) (a : Nat) (v : Int64) : CS := (σ.1, va_up σ.2.1 a v, σ.2.2)
def cpp (σ : CS) (a k : Nat) (v : Option Nat) : CS := (σ.1, σ.2.1, va_up σ.2.2.1 a (va_up (σ.2.2.1 a) k v), σ.2.2.2)
def cpr (σ : CS) (a : Nat) (f : Nat → Int32) : CS := (va_up σ.1 a f, σ.2)
/-- a new cell of the pool: its kind, length, numbers, references -/
def cnw (σ : CS) (k n : Nat) (i : Nat → Int32) (p : Nat → Option Nat) : CS := (va_up σ.1 σ.2.2.2.2.2 i, σ.2.1, va_up σ.2.2.1 σ.2.2.2.2.2 p, va_up σ.2.2.2.1 σ.2.2.2.2.2 k, va_up σ.2.2.2.2.1 σ.2.2.2.2.2 n, σ.2.2.2.2.2 + 1)
def pk (σ : CS) (q k : Nat) : Bool := decide (34 ≤ q) && decide (q < σ.2.2.2.2.2) && decide (σ.2.2.2.1 q = k)
theorem pk_s {σ : CS} {q k : Nat} (h : pk σ q k = true) : 34 ≤ q ∧ q < σ.2.2.2.2.2 ∧ σ.2.2.2.1 q = k := by
  simp only [pk, Bool.and_eq_true, decide_eq_true_eq] at h
  exact ⟨h.1.1, h.1.2, h.2⟩
theorem cw_at {ad : Nat → Nat} {cy : CY} {σ : CS} {q : Nat} (h : q < σ.2.2.2.2.2) : (cw ad cy σ)[q]? = some (ad q, cel ad cy σ q) := by
  simp [cw, h]
theorem cw_len {ad : Nat → Nat} {cy : CY} {σ : CS} : (cw ad cy σ).length = σ.2.2.2.2.2 := by simp [cw]
theorem cw_set {ad : Nat → Nat} {cy : CY} {σ σ1 : CS} {q : Nat} {e : va_E} (hn : σ1.2.2.2.2.2 = σ.2.2.2.2.2) (hq : q < σ.2.2.2.2.2) (h1 : cel ad cy σ1 q = e) (h2 : ∀ j, j ≠ q → cel ad cy σ1 j = cel ad cy σ j) : (cw ad cy σ).set q (ad q, e) = cw ad cy σ1 := by
  apply List.ext_getElem?
  intro j
  by_cases hj : j < σ.2.2.2.2.2
  · rw [cw_at (by rw [hn]; exact hj)]
    by_cases hqj : q = j
    · subst hqj
      rw [List.getElem?_set_self (by rw [cw_len]; exact hj), h1]
    · rw [List.getElem?_set_ne hqj, cw_at hj, h2 j (fun h => hqj h.symm)]
  · rw [List.getElem?_eq_none (by rw [List.length_set, cw_len]; exact Nat.not_lt.mp hj), List.getElem?_eq_none (by rw [cw_len, hn]; exact Nat.not_lt.mp hj)]
theorem cel_cp {ad : Nat → Nat} {cy : CY} {σ : CS} {a k : Nat} {v : Int32} : ∀ j, j ≠ a → cel ad cy (cp σ a k v) j = cel ad cy σ j := fun j h => by simp only [cel, cp, va_up_ne _ _ h]
theorem cel_cpr {ad : Nat → Nat} {cy : CY} {σ : CS} {a : Nat} {f : Nat → Int32} : ∀ j, j ≠ a → cel ad cy (cpr σ a f) j = cel ad cy σ j := fun j h => by simp only [cel, cpr, va_up_ne _ _ h]
theorem cel_cpj {ad : Nat → Nat} {cy : CY} {σ : CS} {a : Nat} {v : Int64} : ∀ j, j ≠ a → cel ad cy (cpj σ a v) j = cel ad cy σ j := fun j h => by simp only [cel, cpj, va_up_ne _ _ h]
theorem cel_cpp {ad : Nat → Nat} {cy : CY} {σ : CS} {a k : Nat} {v : Option Nat} : ∀ j, j ≠ a → cel ad cy (cpp σ a k v) j = cel ad cy σ j := fun j h => by simp only [cel, cpp, va_up_ne _ _ h]
theorem cp_self (σ : CS) (a k : Nat) (v : Int32) : (cp σ a k v).1 a = upd (σ.1 a) k v := by simp [cp, va_up]
theorem ceq_0 (ad : Nat → Nat) (cy : CY) (σ : CS) : cel ad cy σ 0 = .inr (7, cf_0 ad (σ.1 0) (σ.2.1 0) (σ.2.2.1 0)) := rfl
theorem ceq_1 (ad : Nat → Nat) (cy : CY) (σ : CS) : cel ad cy σ 1 = .inr (6, cf_1 ad (σ.1 1) (σ.2.1 1) (σ.2.2.1 1)) := rfl
theorem ceq_5 (ad : Nat → Nat) (cy : CY) (σ : CS) : cel ad cy σ 5 = .inr (0, cf_5 ad (σ.1 5) (σ.2.1 5) (σ.2.2.1 5)) := rfl
theorem ceq_12 (ad : Nat → Nat) (cy : CY) (σ : CS) : cel ad cy σ 12 = .inr (5, cf_12 ad (σ.1 12) (σ.2.1 12) (σ.2.2.1 12)) := rfl
theorem ceq_16 (ad : Nat → Nat) (cy : CY) (σ : CS) : cel ad cy σ 16 = .inr (4, cf_16 ad (σ.1 16) (σ.2.1 16) (σ.2.2.1 16)) := rfl
theorem ceq_18 (ad : Nat → Nat) (cy : CY) (σ : CS) : cel ad cy σ 18 = .inr (0, cf_18 ad (σ.1 18) (σ.2.1 18) (σ.2.2.1 18)) := rfl
theorem ceq_25 (ad : Nat → Nat) (cy : CY) (σ : CS) : cel ad cy σ 25 = .inr (5, cf_25 ad (σ.1 25) (σ.2.1 25) (σ.2.2.1 25)) := rfl
theorem ceq_29 (ad : Nat → Nat) (cy : CY) (σ : CS) : cel ad cy σ 29 = .inr (4, cf_29 ad (σ.1 29) (σ.2.1 29) (σ.2.2.1 29)) := rfl
theorem ceq_31 (ad : Nat → Nat) (cy : CY) (σ : CS) : cel ad cy σ 31 = .inr (2, cf_31 ad (σ.1 31) (σ.2.1 31) (σ.2.2.1 31)) := rfl
theorem ceq_2 (ad : Nat → Nat) (cy : CY) (σ : CS) : cel ad cy σ 2 = .inl (cy.1, 20, .inl (σ.1 2)) := rfl
theorem ceq_3 (ad : Nat → Nat) (cy : CY) (σ : CS) : cel ad cy σ 3 = .inl (cy.1, 20, .inl (σ.1 3)) := rfl
theorem ceq_4 (ad : Nat → Nat) (cy : CY) (σ : CS) : cel ad cy σ 4 = .inl (cy.1, 7, .inl (σ.1 4)) := rfl
theorem ceq_8 (ad : Nat → Nat) (cy : CY) (σ : CS) : cel ad cy σ 8 = .inl (cy.1, 4, .inl (σ.1 8)) := rfl
theorem ceq_9 (ad : Nat → Nat) (cy : CY) (σ : CS) : cel ad cy σ 9 = .inl (cy.1, 4, .inl (σ.1 9)) := rfl
theorem ceq_10 (ad : Nat → Nat) (cy : CY) (σ : CS) : cel ad cy σ 10 = .inl (cy.1, 4, .inl (σ.1 10)) := rfl
theorem ceq_11 (ad : Nat → Nat) (cy : CY) (σ : CS) : cel ad cy σ 11 = .inl (cy.1, 4, .inl (σ.1 11)) := rfl
theorem ceq_13 (ad : Nat → Nat) (cy : CY) (σ : CS) : cel ad cy σ 13 = .inl (cy.1, 8, .inl (σ.1 13)) := rfl
theorem ceq_14 (ad : Nat → Nat) (cy : CY) (σ : CS) : cel ad cy σ 14 = .inl (cy.1, 100, .inl (σ.1 14)) := rfl
theorem ceq_15 (ad : Nat → Nat) (cy : CY) (σ : CS) : cel ad cy σ 15 = .inl (cy.1, 100, .inl (σ.1 15)) := rfl
theorem ceq_17 (ad : Nat → Nat) (cy : CY) (σ : CS) : cel ad cy σ 17 = .inl (cy.1, 24, .inl (σ.1 17)) := rfl
theorem ceq_21 (ad : Nat → Nat) (cy : CY) (σ : CS) : cel ad cy σ 21 = .inl (cy.1, 4, .inl (σ.1 21)) := rfl
theorem ceq_22 (ad : Nat → Nat) (cy : CY) (σ : CS) : cel ad cy σ 22 = .inl (cy.1, 4, .inl (σ.1 22)) := rfl
theorem ceq_23 (ad : Nat → Nat) (cy : CY) (σ : CS) : cel ad cy σ 23 = .inl (cy.1, 4, .inl (σ.1 23)) := rfl
theorem ceq_24 (ad : Nat → Nat) (cy : CY) (σ : CS) : cel ad cy σ 24 = .inl (cy.1, 4, .inl (σ.1 24)) := rfl
theorem ceq_26 (ad : Nat → Nat) (cy : CY) (σ : CS) : cel ad cy σ 26 = .inl (cy.1, 8, .inl (σ.1 26)) := rfl
theorem ceq_27 (ad : Nat → Nat) (cy : CY) (σ : CS) : cel ad cy σ 27 = .inl (cy.1, 100, .inl (σ.1 27)) := rfl
theorem ceq_28 (ad : Nat → Nat) (cy : CY) (σ : CS) : cel ad cy σ 28 = .inl (cy.1, 100, .inl (σ.1 28)) := rfl
theorem ceq_30 (ad : Nat → Nat) (cy : CY) (σ : CS) : cel ad cy σ 30 = .inl (cy.1, 24, .inl (σ.1 30)) := rfl
theorem ceq_32 (ad : Nat → Nat) (cy : CY) (σ : CS) : cel ad cy σ 32 = .inl (cy.1, 8, .inl (σ.1 32)) := rfl
theorem ceq_33 (ad : Nat → Nat) (cy : CY) (σ : CS) : cel ad cy σ 33 = .inl (cy.1, 8, .inl (σ.1 33)) := rfl
theorem ceq_6 (ad : Nat → Nat) (cy : CY) (σ : CS) : cel ad cy σ 6 = .inl (cy.2.2, 6, .inr (.inr (.inr (.inr (fun x => Option.map ad (σ.2.2.1 6 x)))))) := rfl
theorem ceq_19 (ad : Nat → Nat) (cy : CY) (σ : CS) : cel ad cy σ 19 = .inl (cy.2.2, 6, .inr (.inr (.inr (.inr (fun x => Option.map ad (σ.2.2.1 19 x)))))) := rfl
theorem ceq_7 (ad : Nat → Nat) (cy : CY) (σ : CS) : cel ad cy σ 7 = .inl (cy.2.1, 8, .inr (.inr (.inr (.inr (fun x => Option.map ad (σ.2.2.1 7 x)))))) := rfl
theorem ceq_20 (ad : Nat → Nat) (cy : CY) (σ : CS) : cel ad cy σ 20 = .inl (cy.2.1, 8, .inr (.inr (.inr (.inr (fun x => Option.map ad (σ.2.2.1 20 x)))))) := rfl
theorem ceq_P {ad : Nat → Nat} {cy : CY} {σ : CS} {q : Nat} (h : pk σ q 3 = true) : cel ad cy σ q = .inr (3, cf_P (σ.1 q)) := by
  obtain ⟨h1, -, h3⟩ := pk_s h
  simp only [cel, ce, if_neg (Nat.not_lt.mpr h1), h3, if_true]
theorem ceq_L {ad : Nat → Nat} {cy : CY} {σ : CS} {q : Nat} (h : pk σ q 1 = true) : cel ad cy σ q = .inr (1, cf_L ad (σ.1 q) (σ.2.2.1 q)) := by
  obtain ⟨h1, -, h3⟩ := pk_s h
  simp only [cel, ce, if_neg (Nat.not_lt.mpr h1), h3]
  rfl
theorem ceq_A {ad : Nat → Nat} {cy : CY} {σ : CS} {q : Nat} (h : pk σ q 9 = true) : cel ad cy σ q = .inl (cy.1, σ.2.2.2.2.1 q, .inl (σ.1 q)) := by
  obtain ⟨h1, -, h3⟩ := pk_s h
  simp only [cel, ce, if_neg (Nat.not_lt.mpr h1), h3]
  rfl
theorem cst_0_5 (ad : Nat → Nat) (cy : CY) (σ : CS) (v : Int32) : cel ad cy (cp σ 0 5 v) 0 = .inr (7, (cf_0 ad (σ.1 0) (σ.2.1 0) (σ.2.2.1 0)).set 5 (.int v)) := rfl
theorem cst_1_2 (ad : Nat → Nat) (cy : CY) (σ : CS) (v : Int32) : cel ad cy (cp σ 1 2 v) 1 = .inr (6, (cf_1 ad (σ.1 1) (σ.2.1 1) (σ.2.2.1 1)).set 2 (.int v)) := rfl
theorem cst_1_3 (ad : Nat → Nat) (cy : CY) (σ : CS) (v : Int32) : cel ad cy (cp σ 1 3 v) 1 = .inr (6, (cf_1 ad (σ.1 1) (σ.2.1 1) (σ.2.2.1 1)).set 3 (.int v)) := rfl
theorem cst_1_4 (ad : Nat → Nat) (cy : CY) (σ : CS) (v : Int32) : cel ad cy (cp σ 1 4 v) 1 = .inr (6, (cf_1 ad (σ.1 1) (σ.2.1 1) (σ.2.2.1 1)).set 4 (.int v)) := rfl
theorem cst_1_5 (ad : Nat → Nat) (cy : CY) (σ : CS) (v : Int32) : cel ad cy (cp σ 1 5 v) 1 = .inr (6, (cf_1 ad (σ.1 1) (σ.2.1 1) (σ.2.2.1 1)).set 5 (.int v)) := rfl
theorem cst_5_8 (ad : Nat → Nat) (cy : CY) (σ : CS) (v : Int32) : cel ad cy (cp σ 5 8 v) 5 = .inr (0, (cf_5 ad (σ.1 5) (σ.2.1 5) (σ.2.2.1 5)).set 8 (.int v)) := rfl
theorem cst_5_9 (ad : Nat → Nat) (cy : CY) (σ : CS) (v : Int32) : cel ad cy (cp σ 5 9 v) 5 = .inr (0, (cf_5 ad (σ.1 5) (σ.2.1 5) (σ.2.2.1 5)).set 9 (.int v)) := rfl
theorem cst_5_10 (ad : Nat → Nat) (cy : CY) (σ : CS) (v : Int32) : cel ad cy (cp σ 5 10 v) 5 = .inr (0, (cf_5 ad (σ.1 5) (σ.2.1 5) (σ.2.2.1 5)).set 10 (.int v)) := rfl
theorem cst_5_11 (ad : Nat → Nat) (cy : CY) (σ : CS) (v : Int32) : cel ad cy (cp σ 5 11 v) 5 = .inr (0, (cf_5 ad (σ.1 5) (σ.2.1 5) (σ.2.2.1 5)).set 11 (.int v)) := rfl
theorem cst_12_0 (ad : Nat → Nat) (cy : CY) (σ : CS) (v : Int32) : cel ad cy (cp σ 12 0 v) 12 = .inr (5, (cf_12 ad (σ.1 12) (σ.2.1 12) (σ.2.2.1 12)).set 0 (.int v)) := rfl
theorem cst_12_1 (ad : Nat → Nat) (cy : CY) (σ : CS) (v : Int32) : cel ad cy (cp σ 12 1 v) 12 = .inr (5, (cf_12 ad (σ.1 12) (σ.2.1 12) (σ.2.2.1 12)).set 1 (.int v)) := rfl
theorem cst_12_2 (ad : Nat → Nat) (cy : CY) (σ : CS) (v : Int32) : cel ad cy (cp σ 12 2 v) 12 = .inr (5, (cf_12 ad (σ.1 12) (σ.2.1 12) (σ.2.2.1 12)).set 2 (.int v)) := rfl
theorem cst_12_3 (ad : Nat → Nat) (cy : CY) (σ : CS) (v : Int32) : cel ad cy (cp σ 12 3 v) 12 = .inr (5, (cf_12 ad (σ.1 12) (σ.2.1 12) (σ.2.2.1 12)).set 3 (.int v)) := rfl
theorem cst_12_4 (ad : Nat → Nat) (cy : CY) (σ : CS) (v : Int32) : cel ad cy (cp σ 12 4 v) 12 = .inr (5, (cf_12 ad (σ.1 12) (σ.2.1 12) (σ.2.2.1 12)).set 4 (.int v)) := rfl
theorem cst_12_5 (ad : Nat → Nat) (cy : CY) (σ : CS) (v : Int32) : cel ad cy (cp σ 12 5 v) 12 = .inr (5, (cf_12 ad (σ.1 12) (σ.2.1 12) (σ.2.2.1 12)).set 5 (.int v)) := rfl
theorem cst_12_6 (ad : Nat → Nat) (cy : CY) (σ : CS) (v : Int32) : cel ad cy (cp σ 12 6 v) 12 = .inr (5, (cf_12 ad (σ.1 12) (σ.2.1 12) (σ.2.2.1 12)).set 6 (.int v)) := rfl
theorem cst_12_7 (ad : Nat → Nat) (cy : CY) (σ : CS) (v : Int32) : cel ad cy (cp σ 12 7 v) 12 = .inr (5, (cf_12 ad (σ.1 12) (σ.2.1 12) (σ.2.2.1 12)).set 7 (.int v)) := rfl
theorem cst_12_8 (ad : Nat → Nat) (cy : CY) (σ : CS) (v : Int64) : cel ad cy (cpj σ 12 v) 12 = .inr (5, (cf_12 ad (σ.1 12) (σ.2.1 12) (σ.2.2.1 12)).set 8 (.long v)) := rfl
theorem cst_12_9 (ad : Nat → Nat) (cy : CY) (σ : CS) (v : Int32) : cel ad cy (cp σ 12 9 v) 12 = .inr (5, (cf_12 ad (σ.1 12) (σ.2.1 12) (σ.2.2.1 12)).set 9 (.int v)) := rfl
theorem cst_16_1 (ad : Nat → Nat) (cy : CY) (σ : CS) (v : Int32) : cel ad cy (cp σ 16 1 v) 16 = .inr (4, (cf_16 ad (σ.1 16) (σ.2.1 16) (σ.2.2.1 16)).set 1 (.int v)) := rfl
theorem cst_16_2 (ad : Nat → Nat) (cy : CY) (σ : CS) (v : Int32) : cel ad cy (cp σ 16 2 v) 16 = .inr (4, (cf_16 ad (σ.1 16) (σ.2.1 16) (σ.2.2.1 16)).set 2 (.int v)) := rfl
theorem cst_18_8 (ad : Nat → Nat) (cy : CY) (σ : CS) (v : Int32) : cel ad cy (cp σ 18 8 v) 18 = .inr (0, (cf_18 ad (σ.1 18) (σ.2.1 18) (σ.2.2.1 18)).set 8 (.int v)) := rfl
theorem cst_18_9 (ad : Nat → Nat) (cy : CY) (σ : CS) (v : Int32) : cel ad cy (cp σ 18 9 v) 18 = .inr (0, (cf_18 ad (σ.1 18) (σ.2.1 18) (σ.2.2.1 18)).set 9 (.int v)) := rfl
theorem cst_18_10 (ad : Nat → Nat) (cy : CY) (σ : CS) (v : Int32) : cel ad cy (cp σ 18 10 v) 18 = .inr (0, (cf_18 ad (σ.1 18) (σ.2.1 18) (σ.2.2.1 18)).set 10 (.int v)) := rfl
theorem cst_18_11 (ad : Nat → Nat) (cy : CY) (σ : CS) (v : Int32) : cel ad cy (cp σ 18 11 v) 18 = .inr (0, (cf_18 ad (σ.1 18) (σ.2.1 18) (σ.2.2.1 18)).set 11 (.int v)) := rfl
theorem cst_25_0 (ad : Nat → Nat) (cy : CY) (σ : CS) (v : Int32) : cel ad cy (cp σ 25 0 v) 25 = .inr (5, (cf_25 ad (σ.1 25) (σ.2.1 25) (σ.2.2.1 25)).set 0 (.int v)) := rfl
theorem cst_25_1 (ad : Nat → Nat) (cy : CY) (σ : CS) (v : Int32) : cel ad cy (cp σ 25 1 v) 25 = .inr (5, (cf_25 ad (σ.1 25) (σ.2.1 25) (σ.2.2.1 25)).set 1 (.int v)) := rfl
theorem cst_25_2 (ad : Nat → Nat) (cy : CY) (σ : CS) (v : Int32) : cel ad cy (cp σ 25 2 v) 25 = .inr (5, (cf_25 ad (σ.1 25) (σ.2.1 25) (σ.2.2.1 25)).set 2 (.int v)) := rfl
theorem cst_25_3 (ad : Nat → Nat) (cy : CY) (σ : CS) (v : Int32) : cel ad cy (cp σ 25 3 v) 25 = .inr (5, (cf_25 ad (σ.1 25) (σ.2.1 25) (σ.2.2.1 25)).set 3 (.int v)) := rfl
theorem cst_25_4 (ad : Nat → Nat) (cy : CY) (σ : CS) (v : Int32) : cel ad cy (cp σ 25 4 v) 25 = .inr (5, (cf_25 ad (σ.1 25) (σ.2.1 25) (σ.2.2.1 25)).set 4 (.int v)) := rfl
theorem cst_25_5 (ad : Nat → Nat) (cy : CY) (σ : CS) (v : Int32) : cel ad cy (cp σ 25 5 v) 25 = .inr (5, (cf_25 ad (σ.1 25) (σ.2.1 25) (σ.2.2.1 25)).set 5 (.int v)) := rfl
theorem cst_25_6 (ad : Nat → Nat) (cy : CY) (σ : CS) (v : Int32) : cel ad cy (cp σ 25 6 v) 25 = .inr (5, (cf_25 ad (σ.1 25) (σ.2.1 25) (σ.2.2.1 25)).set 6 (.int v)) := rfl
theorem cst_25_7 (ad : Nat → Nat) (cy : CY) (σ : CS) (v : Int32) : cel ad cy (cp σ 25 7 v) 25 = .inr (5, (cf_25 ad (σ.1 25) (σ.2.1 25) (σ.2.2.1 25)).set 7 (.int v)) := rfl
theorem cst_25_8 (ad : Nat → Nat) (cy : CY) (σ : CS) (v : Int64) : cel ad cy (cpj σ 25 v) 25 = .inr (5, (cf_25 ad (σ.1 25) (σ.2.1 25) (σ.2.2.1 25)).set 8 (.long v)) := rfl
theorem cst_25_9 (ad : Nat → Nat) (cy : CY) (σ : CS) (v : Int32) : cel ad cy (cp σ 25 9 v) 25 = .inr (5, (cf_25 ad (σ.1 25) (σ.2.1 25) (σ.2.2.1 25)).set 9 (.int v)) := rfl
theorem cst_29_1 (ad : Nat → Nat) (cy : CY) (σ : CS) (v : Int32) : cel ad cy (cp σ 29 1 v) 29 = .inr (4, (cf_29 ad (σ.1 29) (σ.2.1 29) (σ.2.2.1 29)).set 1 (.int v)) := rfl
theorem cst_29_2 (ad : Nat → Nat) (cy : CY) (σ : CS) (v : Int32) : cel ad cy (cp σ 29 2 v) 29 = .inr (4, (cf_29 ad (σ.1 29) (σ.2.1 29) (σ.2.2.1 29)).set 2 (.int v)) := rfl
theorem cst_31_3 (ad : Nat → Nat) (cy : CY) (σ : CS) (v : Int32) : cel ad cy (cp σ 31 3 v) 31 = .inr (2, (cf_31 ad (σ.1 31) (σ.2.1 31) (σ.2.2.1 31)).set 3 (.int v)) := rfl
theorem cst_31_4 (ad : Nat → Nat) (cy : CY) (σ : CS) (v : Int32) : cel ad cy (cp σ 31 4 v) 31 = .inr (2, (cf_31 ad (σ.1 31) (σ.2.1 31) (σ.2.2.1 31)).set 4 (.int v)) := rfl
theorem cst_31_5 (ad : Nat → Nat) (cy : CY) (σ : CS) (v : Int32) : cel ad cy (cp σ 31 5 v) 31 = .inr (2, (cf_31 ad (σ.1 31) (σ.2.1 31) (σ.2.2.1 31)).set 5 (.int v)) := rfl
theorem cst_31_6 (ad : Nat → Nat) (cy : CY) (σ : CS) (v : Int32) : cel ad cy (cp σ 31 6 v) 31 = .inr (2, (cf_31 ad (σ.1 31) (σ.2.1 31) (σ.2.2.1 31)).set 6 (.int v)) := rfl
theorem cst_31_7 (ad : Nat → Nat) (cy : CY) (σ : CS) (v : Int32) : cel ad cy (cp σ 31 7 v) 31 = .inr (2, (cf_31 ad (σ.1 31) (σ.2.1 31) (σ.2.2.1 31)).set 7 (.int v)) := rfl
theorem cst_31_8 (ad : Nat → Nat) (cy : CY) (σ : CS) (v : Int32) : cel ad cy (cp σ 31 8 v) 31 = .inr (2, (cf_31 ad (σ.1 31) (σ.2.1 31) (σ.2.2.1 31)).set 8 (.int v)) := rfl
theorem cst_31_9 (ad : Nat → Nat) (cy : CY) (σ : CS) (v : Int32) : cel ad cy (cp σ 31 9 v) 31 = .inr (2, (cf_31 ad (σ.1 31) (σ.2.1 31) (σ.2.2.1 31)).set 9 (.int v)) := rfl
theorem cst_31_10 (ad : Nat → Nat) (cy : CY) (σ : CS) (v : Int32) : cel ad cy (cp σ 31 10 v) 31 = .inr (2, (cf_31 ad (σ.1 31) (σ.2.1 31) (σ.2.2.1 31)).set 10 (.int v)) := rfl
theorem cst_31_11 (ad : Nat → Nat) (cy : CY) (σ : CS) (v : Option Nat) : cel ad cy (cpp σ 31 11 v) 31 = .inr (2, (cf_31 ad (σ.1 31) (σ.2.1 31) (σ.2.2.1 31)).set 11 (va_rf (Option.map ad v))) := rfl
theorem cst_31_12 (ad : Nat → Nat) (cy : CY) (σ : CS) (v : Int32) : cel ad cy (cp σ 31 12 v) 31 = .inr (2, (cf_31 ad (σ.1 31) (σ.2.1 31) (σ.2.2.1 31)).set 12 (.int v)) := rfl
theorem pk_cp {σ : CS} {q k a b : Nat} {v : Int32} : pk (cp σ a b v) q k = pk σ q k := rfl
theorem pk_cpr {σ : CS} {q k a : Nat} {f : Nat → Int32} : pk (cpr σ a f) q k = pk σ q k := rfl
theorem cst_A {ad : Nat → Nat} {cy : CY} {σ : CS} {q : Nat} {f : Nat → Int32} (h : pk σ q 9 = true) : cel ad cy (cpr σ q f) q = .inl (cy.1, σ.2.2.2.2.1 q, .inl f) := by
  rw [ceq_A (σ := cpr σ q f) h]
  simp [cpr, va_up]
theorem cst_P0 {ad : Nat → Nat} {cy : CY} {σ : CS} {q : Nat} {v : Int32} (h : pk σ q 3 = true) : cel ad cy (cp σ q 0 v) q = .inr (3, (cf_P (σ.1 q)).set 0 (.int v)) := by
  rw [ceq_P (σ := cp σ q 0 v) h, cp_self]
  rfl
theorem cst_P1 {ad : Nat → Nat} {cy : CY} {σ : CS} {q : Nat} {v : Int32} (h : pk σ q 3 = true) : cel ad cy (cp σ q 1 v) q = .inr (3, (cf_P (σ.1 q)).set 1 (.int v)) := by
  rw [ceq_P (σ := cp σ q 1 v) h, cp_self]
  rfl
theorem cst_P2 {ad : Nat → Nat} {cy : CY} {σ : CS} {q : Nat} {v : Int32} (h : pk σ q 3 = true) : cel ad cy (cp σ q 2 v) q = .inr (3, (cf_P (σ.1 q)).set 2 (.int v)) := by
  rw [ceq_P (σ := cp σ q 2 v) h, cp_self]
  rfl
theorem cst_P3 {ad : Nat → Nat} {cy : CY} {σ : CS} {q : Nat} {v : Int32} (h : pk σ q 3 = true) : cel ad cy (cp σ q 3 v) q = .inr (3, (cf_P (σ.1 q)).set 3 (.int v)) := by
  rw [ceq_P (σ := cp σ q 3 v) h, cp_self]
  rfl
theorem cst_P4 {ad : Nat → Nat} {cy : CY} {σ : CS} {q : Nat} {v : Int32} (h : pk σ q 3 = true) : cel ad cy (cp σ q 4 v) q = .inr (3, (cf_P (σ.1 q)).set 4 (.int v)) := by
  rw [ceq_P (σ := cp σ q 4 v) h, cp_self]
  rfl
theorem cst_L0 {ad : Nat → Nat} {cy : CY} {σ : CS} {q : Nat} {v : Int32} (h : pk σ q 1 = true) : cel ad cy (cp σ q 0 v) q = .inr (1, (cf_L ad (σ.1 q) (σ.2.2.1 q)).set 0 (.int v)) := by
  rw [ceq_L (σ := cp σ q 0 v) h, cp_self]
  rfl
theorem cst_L1 {ad : Nat → Nat} {cy : CY} {σ : CS} {q : Nat} {v : Int32} (h : pk σ q 1 = true) : cel ad cy (cp σ q 1 v) q = .inr (1, (cf_L ad (σ.1 q) (σ.2.2.1 q)).set 1 (.int v)) := by
  rw [ceq_L (σ := cp σ q 1 v) h, cp_self]
  rfl
theorem cst_L2 {ad : Nat → Nat} {cy : CY} {σ : CS} {q : Nat} {v : Int32} (h : pk σ q 1 = true) : cel ad cy (cp σ q 2 v) q = .inr (1, (cf_L ad (σ.1 q) (σ.2.2.1 q)).set 2 (.int v)) := by
  rw [ceq_L (σ := cp σ q 2 v) h, cp_self]
  rfl
theorem cst_L3 {ad : Nat → Nat} {cy : CY} {σ : CS} {q : Nat} {v : Option Nat} (h : pk σ q 1 = true) : cel ad cy (cpp σ q 3 v) q = .inr (1, (cf_L ad (σ.1 q) (σ.2.2.1 q)).set 3 (va_rf (Option.map ad v))) := by
  rw [ceq_L (σ := cpp σ q 3 v) h]
  have e : (cpp σ q 3 v).2.2.1 q = va_up (σ.2.2.1 q) 3 v := by simp [cpp, va_up]
  rw [e]
  rfl
theorem cst_L4 {ad : Nat → Nat} {cy : CY} {σ : CS} {q : Nat} {v : Option Nat} (h : pk σ q 1 = true) : cel ad cy (cpp σ q 4 v) q = .inr (1, (cf_L ad (σ.1 q) (σ.2.2.1 q)).set 4 (va_rf (Option.map ad v))) := by
  rw [ceq_L (σ := cpp σ q 4 v) h]
  have e : (cpp σ q 4 v).2.2.1 q = va_up (σ.2.2.1 q) 4 v := by simp [cpp, va_up]
  rw [e]
  rfl
abbrev ctys (cy : CY) : List (ClassId × FieldType) := [(cy.1, .int), (cy.2.1, .object "PlateRings$Loss"), (cy.2.2, .object "PlateRings$Plate")]
def zst : List Int32 := [10, 5, 2]
def ztx : List (List Int32) := [[108, 116, 119, 100, 101, 98, 102, 107]]
/-- what the start says and nothing changes: two links between nest mates, the row of steps, the names of fields -/
def cEn (z : CZ) (A : Nat → Prop) (U : State) (H : Heap) : Prop := va_Nw (.methodLinkNest RX2 73 yX7_isFloor RX7) U ∧ va_Nw (.methodLinkNest RX2 89 yX7_toneOf RX7) U ∧ va_Z "PlateRings" "LONG_STEPS" "[I" (.ref z.1) A U H ∧ va_T .int z.1 3 (fun j => .int (zst.getD j 0)) A U H ∧ va_Z "java/lang/String" "COMPACT_STRINGS" "Z" (.int 1) A U H ∧ vk_R RX6 91 "ltwdebfk" (z.2.1 0) U ∧ vk_S 1 [8] ztx z.2.1 z.2.2 A U H
def cV (D : va_G) (cy : CY) (z : CZ) (A : Nat → Prop) (s : State) : Prop := va_K D vwCl (ctys cy) s ∧ (∀ q, s.heap.size ≤ q → A q) ∧ cEn z A s s.heap
def cB (D : va_G) (ad : Nat → Nat) (cy : CY) (A : Nat → Prop) (H0 : Heap) (σ : CS) (H : Heap) (locs : List Loc) : Prop := 34 ≤ σ.2.2.2.2.2 ∧ va_P D vwCl (cw ad cy σ) H ∧ va_D A (cw ad cy σ) ∧ va_S A H0 H locs
theorem c34 {D : va_G} {ad : Nat → Nat} {cy : CY} {A : Nat → Prop} {H0 : Heap} {σ : CS} {H : Heap} {locs : List Loc} {a : Nat} (h : Nat.blt a 34 = true) (hB : cB D ad cy A H0 σ H locs) : a < σ.2.2.2.2.2 := Nat.lt_of_lt_of_le (Nat.le_of_ble_eq_true h) hB.1
def cU (D : va_G) (ad : Nat → Nat) (cy : CY) (z : CZ) (σ : CS) (sz : Nat) (U : State) : Prop := U.heap.size = sz ∧ 34 ≤ σ.2.2.2.2.2 ∧ va_P D vwCl (cw ad cy σ) U.heap ∧ va_K D vwCl (ctys cy) U ∧ va_D (fun _ => True) (cw ad cy σ) ∧ cEn z (va_A (cw ad cy σ) sz) U U.heap
def cQ (D : va_G) (ad : Nat → Nat) (cy : CY) (A : Nat → Prop) (rv : Option Value) (σ0 : CS) : Array Value → State → Outcome → State → Prop := fun _ st oc t => (oc = .returned rv ∧ 34 ≤ σ0.2.2.2.2.2 ∧ va_P D vwCl (cw ad cy σ0) t.heap ∧ va_D A (cw ad cy σ0)) ∧ va_F A st t
def cM (l : Launch) (y : MethodName) (ws : List Cond) (rm : Room) (D : va_G) (ad : Nat → Nat) (cy : CY) (z : CZ) (av : List Value) (σ : CS) (rv : Option Value) (σ0 : CS) : Prop := ∀ sz : Nat, Met l y ws rm (va_Pc av (cU D ad cy z σ sz)) (cQ D ad cy (va_A (cw ad cy σ) sz) rv σ0) 0 0 (va_A (cw ad cy σ) sz)
def oc {β : Type} (o : Option Nat) (a : β) (f : Nat → β) : β := match o with | none => a | some q => f q
def od {β : Type} (o : Option Nat) (f : Nat → Option β) : Option β := match o with | none => none | some q => f q
theorem od_e {β : Type} {o : Option Nat} {f : Nat → Option β} {y : β} (h : od o f = some y) : ∃ q, o = some q ∧ f q = some y := by cases o with | none => cases h | some q => exact ⟨q, rfl, h⟩
theorem cEn.call {z : CZ} {A B : Nat → Prop} {s U : State} {H : Heap} {locs : List Loc} (h : cEn z A s s.heap) (hS : va_S A s.heap H locs) (hU : U.heap = H) (hW : s.WarmedH U.vm) (hAB : ∀ q, B q → A q) : cEn z B U U.heap := by
  obtain ⟨h1, h2, h3, h4, h5, h6, h7⟩ := h
  rw [hU]
  refine ⟨va_Nw.warmM hW h1, va_Nw.warmM hW h2, ?_, ((va_T.moved hW.alike h4).kept hS.2.1).narrow hAB, ?_, vk_R.warm hW h6, ((vk_S.moved hW.alike h7).kept hS.2.1).narrow hAB⟩
  · exact va_Z.narrow ((va_Z.moved hW.alike h3).kept hS.2.1) hAB
  · exact va_Z.narrow ((va_Z.moved hW.alike h5).kept hS.2.1) hAB
theorem cEn.same {z : CZ} {A : Nat → Prop} {U V : State} (h : cEn z A U U.heap) (hv : U.vm = V.vm) (hh : U.heap = V.heap) (ha : U.vm.Alike V.vm) : cEn z A V V.heap := by
  obtain ⟨h1, h2, h3, h4, h5, h6, h7⟩ := h
  rw [hh] at h3 h4 h5 h7
  exact ⟨va_Nw.same rfl hv h1, va_Nw.same rfl hv h2, va_Z.moved ha h3, va_T.moved ha h4, va_Z.moved ha h5, vk_R.same hv.symm h6, vk_S.moved ha h7⟩
section
variable {p : Program} {l : Launch} {e : Env} {R : Room} {s : State} {m : MethodId} {args : Array Value} {below : List Frame} {meth : Method} {c : Code} {H : Heap} {locs : List Loc} {cells slots : Nat} {Q : State → Prop}
variable {cc : ByteArray} {pc : Nat} {ls : Array Slot} {rest : List Value} {D : va_G} {A : Nat → Prop} {ad : Nat → Nat} {cy : CY} {z : CZ} {σ σ0 : CS} {Ts : List Cond} {index : Nat} {own : String}
theorem rc_get {C : String} {T : u_T} {N ci : Nat} {fs : List Value} (hx : p.tables.exec = Jvm.exec) (hb : c.code = cc) (hts : ∀ w ∈ Ts, w.before args s = true) (hin : ∀ w ∈ u_ws C T N, w ∈ Ts) (hown : s.vm.findClass own = some m.cls) (hV : cV D cy z A s) (hB : cB D ad cy A s.heap σ H locs) (a : Nat) (ha : a < σ.2.2.2.2.2) (hcel : cel ad cy σ a = .inr (ci, fs)) (hc : vwCl[ci]? = some (C, T, N)) (k : Nat) (hk : k < N) (hlink : Cond.fieldLink own index (T k).1 (T k).2.1 (T k).2.2.1 ∈ Ts) {v : Value} (hv : fs[k]? = some v) (hdg : decode cc pc = .ok (.getfield index, 3)) (kk : W p l e R s m args below meth c H locs cells slots Q (F0 m (pc + 3) ls (v :: rest))) : W p l e R s m args below meth c H locs cells slots Q (F0 m pc ls (.ref (ad a) :: rest)) :=
  va_get (D := D) (ci := ci) (C := C) (T := T) (N := N) hx hb hts hin hown hV.1 hB.2.1 a ((cw_at ha).trans (by rw [hcel])) hc k hk (hts _ hlink) (fun _ h9 => h9) hv hdg kk
theorem rc_puti {C : String} {T : u_T} {N ci : Nat} {fs : List Value} (hx : p.tables.exec = Jvm.exec) (hb : c.code = cc) (hts : ∀ w ∈ Ts, w.before args s = true) (hin : ∀ w ∈ u_ws C T N, w ∈ Ts) (hown : s.vm.findClass own = some m.cls) (hV : cV D cy z A s) (hB : cB D ad cy A s.heap σ H locs) (a : Nat) (ha : a < σ.2.2.2.2.2) (hcel : cel ad cy σ a = .inr (ci, fs)) (hc : vwCl[ci]? = some (C, T, N)) (k : Nat) (hk : k < N) (hlink : Cond.fieldLink own index (T k).1 (T k).2.1 (T k).2.2.1 ∈ Ts) {v : Int32} {ty : FieldType} (ty0 : Nat → FieldType) (hty : ∀ k, k < N → parseFieldDescriptor (T k).2.2.1 = some (ty0 k)) (hnm : ∀ a, a < N → ∀ b, b < N → a ≠ b → (T a).2.1 ≠ (T b).2.1) (hset : cel ad cy (cp σ a k v) a = .inr (ci, fs.set k (.int v))) (hfin : (T k).2.2.2 = false) (hd : parseFieldDescriptor (T k).2.2.1 = some ty) (hn : narrow ty (.int v) = .int v) (hfit : fits ty (.int v) = true) (hl : k < fs.length) (hdg : decode cc pc = .ok (.putfield index, 3)) (kk : ∀ σ1 : CS, σ1 = cp σ a k v → ∀ (H1 : Heap) (locs1 : List Loc), cB D ad cy A s.heap σ1 H1 locs1 → W p l e R s m args below meth c H1 locs1 cells slots Q (F0 m (pc + 3) ls (rest))) : W p l e R s m args below meth c H locs cells slots Q (F0 m pc ls (.int v :: .ref (ad a) :: rest)) := by
  have hw : (cw ad cy σ).set a (ad a, .inr (ci, fs.set k (.int v))) = cw ad cy (cp σ a k v) := cw_set rfl ha hset cel_cp
  refine va_put (D := D) (ci := ci) (C := C) (T := T) (N := N) hx hb hts hin ty0 hty hnm hown hV.1 hB.2.1 hB.2.2.1 hB.2.2.2 a ((cw_at ha).trans (by rw [hcel])) hc k hk (hts _ hlink) (fun _ h9 => h9) hfin hd hn hfit hl hdg (fun H1 locs1 hP hD hS => kk _ rfl H1 locs1 ⟨hB.1, by rw [hw] at hP; exact hP, by rw [hw] at hD; exact hD, hS⟩)
theorem rc_putl {C : String} {T : u_T} {N ci : Nat} {fs : List Value} (hx : p.tables.exec = Jvm.exec) (hb : c.code = cc) (hts : ∀ w ∈ Ts, w.before args s = true) (hin : ∀ w ∈ u_ws C T N, w ∈ Ts) (hown : s.vm.findClass own = some m.cls) (hV : cV D cy z A s) (hB : cB D ad cy A s.heap σ H locs) (a : Nat) (ha : a < σ.2.2.2.2.2) (hcel : cel ad cy σ a = .inr (ci, fs)) (hc : vwCl[ci]? = some (C, T, N)) (k : Nat) (hk : k < N) (hlink : Cond.fieldLink own index (T k).1 (T k).2.1 (T k).2.2.1 ∈ Ts) {v : Int64} {ty : FieldType} (ty0 : Nat → FieldType) (hty : ∀ k, k < N → parseFieldDescriptor (T k).2.2.1 = some (ty0 k)) (hnm : ∀ a, a < N → ∀ b, b < N → a ≠ b → (T a).2.1 ≠ (T b).2.1) (hset : cel ad cy (cpj σ a v) a = .inr (ci, fs.set k (.long v))) (hfin : (T k).2.2.2 = false) (hd : parseFieldDescriptor (T k).2.2.1 = some ty) (hn : narrow ty (.long v) = .long v) (hfit : fits ty (.long v) = true) (hl : k < fs.length) (hdg : decode cc pc = .ok (.putfield index, 3)) (kk : ∀ σ1 : CS, σ1 = cpj σ a v → ∀ (H1 : Heap) (locs1 : List Loc), cB D ad cy A s.heap σ1 H1 locs1 → W p l e R s m args below meth c H1 locs1 cells slots Q (F0 m (pc + 3) ls (rest))) : W p l e R s m args below meth c H locs cells slots Q (F0 m pc ls (.long v :: .ref (ad a) :: rest)) := by
  have hw : (cw ad cy σ).set a (ad a, .inr (ci, fs.set k (.long v))) = cw ad cy (cpj σ a v) := cw_set rfl ha hset cel_cpj
  refine va_put (D := D) (ci := ci) (C := C) (T := T) (N := N) hx hb hts hin ty0 hty hnm hown hV.1 hB.2.1 hB.2.2.1 hB.2.2.2 a ((cw_at ha).trans (by rw [hcel])) hc k hk (hts _ hlink) (fun _ h9 => h9) hfin hd hn hfit hl hdg (fun H1 locs1 hP hD hS => kk _ rfl H1 locs1 ⟨hB.1, by rw [hw] at hP; exact hP, by rw [hw] at hD; exact hD, hS⟩)
theorem rc_putr {C : String} {T : u_T} {N ci : Nat} {fs : List Value} (hx : p.tables.exec = Jvm.exec) (hb : c.code = cc) (hts : ∀ w ∈ Ts, w.before args s = true) (hin : ∀ w ∈ u_ws C T N, w ∈ Ts) (hown : s.vm.findClass own = some m.cls) (hV : cV D cy z A s) (hB : cB D ad cy A s.heap σ H locs) (a : Nat) (ha : a < σ.2.2.2.2.2) (hcel : cel ad cy σ a = .inr (ci, fs)) (hc : vwCl[ci]? = some (C, T, N)) (k : Nat) (hk : k < N) (hlink : Cond.fieldLink own index (T k).1 (T k).2.1 (T k).2.2.1 ∈ Ts) {v : Option Nat} {ty : FieldType} (ty0 : Nat → FieldType) (hty : ∀ k, k < N → parseFieldDescriptor (T k).2.2.1 = some (ty0 k)) (hnm : ∀ a, a < N → ∀ b, b < N → a ≠ b → (T a).2.1 ≠ (T b).2.1) (hset : cel ad cy (cpp σ a k v) a = .inr (ci, fs.set k (va_rf (Option.map ad v)))) (hfin : (T k).2.2.2 = false) (hd : parseFieldDescriptor (T k).2.2.1 = some ty) (hn : narrow ty (va_rf (Option.map ad v)) = va_rf (Option.map ad v)) (hfit : fits ty (va_rf (Option.map ad v)) = true) (hl : k < fs.length) (hdg : decode cc pc = .ok (.putfield index, 3)) (kk : ∀ σ1 : CS, σ1 = cpp σ a k v → ∀ (H1 : Heap) (locs1 : List Loc), cB D ad cy A s.heap σ1 H1 locs1 → W p l e R s m args below meth c H1 locs1 cells slots Q (F0 m (pc + 3) ls (rest))) : W p l e R s m args below meth c H locs cells slots Q (F0 m pc ls (va_rf (Option.map ad v) :: .ref (ad a) :: rest)) := by
  have hw : (cw ad cy σ).set a (ad a, .inr (ci, fs.set k (va_rf (Option.map ad v)))) = cw ad cy (cpp σ a k v) := cw_set rfl ha hset cel_cpp
  refine va_put (D := D) (ci := ci) (C := C) (T := T) (N := N) hx hb hts hin ty0 hty hnm hown hV.1 hB.2.1 hB.2.2.1 hB.2.2.2 a ((cw_at ha).trans (by rw [hcel])) hc k hk (hts _ hlink) (fun _ h9 => h9) hfin hd hn hfit hl hdg (fun H1 locs1 hP hD hS => kk _ rfl H1 locs1 ⟨hB.1, by rw [hw] at hP; exact hP, by rw [hw] at hD; exact hD, hS⟩)
theorem rc_ald (hx : p.tables.exec = Jvm.exec) (hb : c.code = cc) (hV : cV D cy z A s) (hB : cB D ad cy A s.heap σ H locs) (a : Nat) (ha : a < σ.2.2.2.2.2) {n : Nat} (hcel : cel ad cy σ a = .inl (cy.1, n, .inl (σ.1 a))) {i : Int32} (hin : ib i n = true) (hdg : decode cc pc = .ok (.iaload, 1)) (kk : W p l e R s m args below meth c H locs cells slots Q (F0 m (pc + 1) ls (.int (σ.1 a i.toNatClampNeg) :: rest))) : W p l e R s m args below meth c H locs cells slots Q (F0 m pc ls (.int i :: .ref (ad a) :: rest)) :=
  va_iald hx hb hV.1 hB.2.1 a 0 ((cw_at ha).trans (by rw [hcel])) rfl (ib_in hin) hdg kk
theorem rc_ast (hx : p.tables.exec = Jvm.exec) (hb : c.code = cc) (hV : cV D cy z A s) (hB : cB D ad cy A s.heap σ H locs) (a : Nat) (ha : a < σ.2.2.2.2.2) {n : Nat} (hcel : cel ad cy σ a = .inl (cy.1, n, .inl (σ.1 a))) (hset : ∀ f : Nat → Int32, cel ad cy (cpr σ a f) a = .inl (cy.1, n, .inl f)) {i x : Int32} (hin : ib i n = true) (hdg : decode cc pc = .ok (.iastore, 1)) (kk : ∀ σ1 : CS, σ1 = cp σ a i.toNatClampNeg x → ∀ (H1 : Heap) (locs1 : List Loc), cB D ad cy A s.heap σ1 H1 locs1 → W p l e R s m args below meth c H1 locs1 cells slots Q (F0 m (pc + 1) ls (rest))) : W p l e R s m args below meth c H locs cells slots Q (F0 m pc ls (.int x :: .int i :: .ref (ad a) :: rest)) := by
  have hw : (cw ad cy σ).set a (ad a, .inl (cy.1, n, .inl (upd (σ.1 a) i.toNatClampNeg x))) = cw ad cy (cp σ a i.toNatClampNeg x) := cw_set rfl ha (hset _) cel_cp
  exact va_iast hx hb hV.1 hB.2.1 hB.2.2.1 hB.2.2.2 a 0 ((cw_at ha).trans (by rw [hcel])) rfl (ib_in hin) hdg (fun H1 locs1 hP hD hS => kk _ rfl H1 locs1 ⟨hB.1, by rw [hw] at hP; exact hP, by rw [hw] at hD; exact hD, hS⟩)
theorem rc_alen (hx : p.tables.exec = Jvm.exec) (hb : c.code = cc) (hV : cV D cy z A s) (hB : cB D ad cy A s.heap σ H locs) (a : Nat) (ha : a < σ.2.2.2.2.2) {n : Nat} (hcel : cel ad cy σ a = .inl (cy.1, n, .inl (σ.1 a))) {v : Int32} (hv : Int32.ofNat n = v) (hdg : decode cc pc = .ok (.arraylength, 1)) (kk : W p l e R s m args below meth c H locs cells slots Q (F0 m (pc + 1) ls (.int v :: rest))) : W p l e R s m args below meth c H locs cells slots Q (F0 m pc ls (.ref (ad a) :: rest)) :=
  va_alen hx hb hV.1 hB.2.1 a 0 ((cw_at ha).trans (by rw [hcel])) rfl hv hdg kk
theorem rc_aldq (hx : p.tables.exec = Jvm.exec) (hb : c.code = cc) (hV : cV D cy z A s) (hB : cB D ad cy A s.heap σ H locs) (a : Nat) (ha : a < σ.2.2.2.2.2) (t0 : Nat) {cA : ClassId} {C : String} {n : Nat} (hcel : cel ad cy σ a = .inl (cA, n, .inr (.inr (.inr (.inr (fun x => Option.map ad (σ.2.2.1 a x))))))) (ht : (ctys cy)[t0]? = some (cA, .object C)) {i : Int32} (hin : ib i n = true) (hdg : decode cc pc = .ok (.aaload, 1)) (kk : ∀ w : Option Nat, w = σ.2.2.1 a i.toNatClampNeg → W p l e R s m args below meth c H locs cells slots Q (F0 m (pc + 1) ls (va_rf (Option.map ad w) :: rest))) : W p l e R s m args below meth c H locs cells slots Q (F0 m pc ls (.int i :: .ref (ad a) :: rest)) :=
  va_aldq hx hb hV.1 hB.2.1 a t0 ((cw_at ha).trans (by rw [hcel])) ht (ib_in hin) hdg (kk _ rfl)
theorem upm (ad : Nat → Nat) (f : Nat → Option Nat) (k : Nat) (v : Option Nat) : va_up (fun x => Option.map ad (f x)) k (Option.map ad v) = fun x => Option.map ad (va_up f k v x) := by
  funext x
  by_cases h : x = k
  · subst h; simp [va_up]
  · simp [va_up, h]
theorem rc_astq (hx : p.tables.exec = Jvm.exec) (hb : c.code = cc) (hV : cV D cy z A s) (hB : cB D ad cy A s.heap σ H locs) (a : Nat) (ha : a < σ.2.2.2.2.2) (t0 : Nat) {cA : ClassId} {C : String} {n : Nat} (hcel : cel ad cy σ a = .inl (cA, n, .inr (.inr (.inr (.inr (fun x => Option.map ad (σ.2.2.1 a x))))))) (ht : (ctys cy)[t0]? = some (cA, .object C)) (w : Nat) {ci : Nat} {r : vw_C} {vs : List Value} (hwn : w < σ.2.2.2.2.2) (hwc : cel ad cy σ w = .inr (ci, vs)) (hr : vwCl[ci]? = some r) (hC : C = r.1) (hset : ∀ f : Nat → Option Nat, cel ad cy (σ.1, σ.2.1, va_up σ.2.2.1 a f, σ.2.2.2) a = .inl (cA, n, .inr (.inr (.inr (.inr (fun x => Option.map ad (f x))))))) {i : Int32} (hin : ib i n = true) (hdg : decode cc pc = .ok (.aastore, 1)) (kk : ∀ σ1 : CS, σ1 = cpp σ a i.toNatClampNeg (some w) → ∀ (H1 : Heap) (locs1 : List Loc), cB D ad cy A s.heap σ1 H1 locs1 → W p l e R s m args below meth c H1 locs1 cells slots Q (F0 m (pc + 1) ls (rest))) : W p l e R s m args below meth c H locs cells slots Q (F0 m pc ls (.ref (ad w) :: .int i :: .ref (ad a) :: rest)) := by
  have hw : (cw ad cy σ).set a (ad a, .inl (cA, n, .inr (.inr (.inr (.inr (va_up (fun x => Option.map ad (σ.2.2.1 a x)) i.toNatClampNeg (Option.map ad (some w)))))))) = cw ad cy (cpp σ a i.toNatClampNeg (some w)) := by
    rw [upm]
    exact cw_set rfl ha (hset _) cel_cpp
  exact va_astq hx hb hV.1 hB.2.1 hB.2.2.1 hB.2.2.2 a t0 w ci ((cw_at ha).trans (by rw [hcel])) (by rw [← hC]; exact ht) ((cw_at hwn).trans (by rw [hwc])) hr (ib_in hin) hdg (fun H1 locs1 hP hD hS => kk _ rfl H1 locs1 ⟨hB.1, hw ▸ hP, hw ▸ hD, hS⟩)
theorem rc_astqN (hx : p.tables.exec = Jvm.exec) (hb : c.code = cc) (hV : cV D cy z A s) (hB : cB D ad cy A s.heap σ H locs) (a : Nat) (ha : a < σ.2.2.2.2.2) (t0 : Nat) {cA : ClassId} {C : String} {n : Nat} (hcel : cel ad cy σ a = .inl (cA, n, .inr (.inr (.inr (.inr (fun x => Option.map ad (σ.2.2.1 a x))))))) (ht : (ctys cy)[t0]? = some (cA, .object C)) (hset : ∀ f : Nat → Option Nat, cel ad cy (σ.1, σ.2.1, va_up σ.2.2.1 a f, σ.2.2.2) a = .inl (cA, n, .inr (.inr (.inr (.inr (fun x => Option.map ad (f x))))))) {i : Int32} (hin : ib i n = true) (hdg : decode cc pc = .ok (.aastore, 1)) (kk : ∀ σ1 : CS, σ1 = cpp σ a i.toNatClampNeg none → ∀ (H1 : Heap) (locs1 : List Loc), cB D ad cy A s.heap σ1 H1 locs1 → W p l e R s m args below meth c H1 locs1 cells slots Q (F0 m (pc + 1) ls (rest))) : W p l e R s m args below meth c H locs cells slots Q (F0 m pc ls (.null :: .int i :: .ref (ad a) :: rest)) := by
  have hw : (cw ad cy σ).set a (ad a, .inl (cA, n, .inr (.inr (.inr (.inr (va_up (fun x => Option.map ad (σ.2.2.1 a x)) i.toNatClampNeg (Option.map ad none))))))) = cw ad cy (cpp σ a i.toNatClampNeg none) := by
    rw [upm]
    exact cw_set rfl ha (hset _) cel_cpp
  exact va_astqN hx hb hV.1 hB.2.1 hB.2.2.1 hB.2.2.2 a t0 ((cw_at ha).trans (by rw [hcel])) ht (ib_in hin) hdg (fun H1 locs1 hP hD hS => kk _ rfl H1 locs1 ⟨hB.1, hw ▸ hP, hw ▸ hD, hS⟩)
theorem rc_after {rv : Option Value} {av : Array Value} {st0 : List Value} {A1 : Nat → Prop} {free : Addr → Prop} (hr : va_Run p l e R s m args below meth c H locs cells slots 0 0 (F0 m pc ls st0) rest (cQ D ad cy A1 rv σ0 av) free) (hS : va_S A s.heap H locs) (hA1 : ∀ q, A1 q → A q) (hf : ∀ q, free q → A q) (kk : ∀ (H1 : Heap) (locs1 : List Loc), cB D ad cy A s.heap σ0 H1 locs1 → W p l e R s m args below meth c H1 locs1 cells slots Q (F0 m (pc + 3) ls (rv.toList ++ rest))) : W p l e R s m args below meth c H locs cells slots Q (F0 m pc ls st0) := by
  intro T hT X
  obtain ⟨v, st₀, t, T', L, h0, X', hL, e1, e2, ⟨⟨hv, hn, hp, hd⟩, hz, hk⟩, st⟩ := hr T hT X
  cases hv
  rw [h0] at hz hk
  obtain ⟨t2, a1, b1⟩ := kk T'.heap (locs ++ L) ⟨hn, by rw [e1]; exact hp, hd.weaken (fun _ q _ h => hA1 q.1 h), Nat.le_trans hS.1 (by rw [e1]; exact hz), fun q h1 h2 => by rw [e1, hk q (Nat.lt_of_lt_of_le h1 hS.1) (fun z => h2 (hA1 q z))]; exact hS.2.1 q h1 h2, fun q hq => by
      rcases List.mem_append.mp hq with h | h
      · exact hS.2.2 q h
      · exact hf _ (hL q h)⟩ T' rfl X'
  exact ⟨t2, st t2 a1, b1⟩
theorem cfree (hV : cV D cy z A s) (hB : cB D ad cy A s.heap σ H locs) : ∀ q, va_A (cw ad cy σ) H.size q → A q := fun q h => by
  rcases h with ⟨k, e, h⟩ | h
  · exact hB.2.2.1.2 k (q, e) h
  · exact hV.2.1 q (Nat.le_trans hB.2.2.2.1 h)
theorem cblind {sz : Nat} {av : List Value} : FrameBlind (va_Pc av (cU D ad cy z σ sz)) := fun a U g mk q => ⟨q.1, q.2.1, q.2.2.1, q.2.2.2.1, va_K.moved (u := U) (U := U.calling g mk a) (Vm.Alike.refl U.vm) q.2.2.2.2.1, q.2.2.2.2.2.1, cEn.same q.2.2.2.2.2.2 rfl rfl (Vm.Alike.refl U.vm)⟩
theorem cbegin {av : List Value} (hV : cV D cy z A s) (hB : cB D ad cy A s.heap σ H locs) : ∀ U : State, U.heap = H → s.WarmedH U.vm → va_Pc av (cU D ad cy z σ H.size) av.toArray U := fun U hU hW => ⟨rfl, by rw [hU], hB.1, by rw [hU]; exact hB.2.1, va_K.moved hW.alike hV.1, hB.2.2.1.weaken (fun _ _ _ _ => trivial), cEn.call hV.2.2 hB.2.2.2 hU hW (cfree hV hB)⟩
theorem rc_callV {y : MethodName} {wsy : List Cond} {rm : Room} {bytes : ByteArray} {maxL nL nA : Nat} {ret : Option FieldType} {av st : List Value} {rv : Option Value} (hx : p.tables.exec = Jvm.exec) (hb : c.code = cc) (hml : c.maxLocals = nL) (hown : s.vm.findClass own = some m.cls) (hts : ∀ w ∈ Ts, w.before args s = true) (hls : ls.size = nL) (hV : cV D cy z A s) (hB : cB D ad cy A s.heap σ H locs) (a : Nat) (ha : a < σ.2.2.2.2.2) {ci : Nat} {r : vw_C} {fs : List Value} (hcel : cel ad cy σ a = .inr (ci, fs)) (hr : vwCl[ci]? = some r) (hM : cM l y wsy rm D ad cy z (.ref (ad a) :: av) σ rv σ0) (cw0 : CallW R s args own r.1 index y bytes maxL ret wsy rm 0 0 nA) (hn : av.length = nA) (hst : st = av.reverse ++ .ref (ad a) :: rest) (hroom : 2 * (F0 m pc ls st).monitorRoom + (rest.map fun v => v.category).sum ≤ 8) (hdg : decode cc pc = .ok (.invokevirtual index, 3)) (hc : cells + 0 ≤ R.cells) (hs : slots + 0 ≤ R.slots) (kk : ∀ (H1 : Heap) (locs1 : List Loc), cB D ad cy A s.heap σ0 H1 locs1 → W p l e R s m args below meth c H1 locs1 cells slots Q (F0 m (pc + 3) ls (rv.toList ++ rest))) : W p l e R s m args below meth c H locs cells slots Q (F0 m pc ls (st)) :=
  rc_after (va_runV (As := av) (rest := rest) ⟨hx, hb, hml, hown, hts⟩ (hM H.size) cw0 ⟨cblind, va_recv hV.1 hB.2.1 (ci := ci) (q0 := a) hr ((cw_at ha).trans (by rw [hcel])), cbegin hV hB⟩ rfl hn hls hst hroom hdg ⟨hc, hs⟩) hB.2.2.2 (cfree hV hB) (cfree hV hB) kk
theorem rc_callS {y : MethodName} {wsy : List Cond} {rm : Room} {bytes : ByteArray} {maxL nL nA : Nat} {ret : Option FieldType} {av st : List Value} {rv : Option Value} (hx : p.tables.exec = Jvm.exec) (hb : c.code = cc) (hml : c.maxLocals = nL) (hown : s.vm.findClass own = some m.cls) (hts : ∀ w ∈ Ts, w.before args s = true) (hls : ls.size = nL) (hV : cV D cy z A s) (hB : cB D ad cy A s.heap σ H locs) (hM : cM l y wsy rm D ad cy z av σ rv σ0) (cw0 : CallB R s args own index y bytes maxL ret wsy rm 0 0 nA ∧ (Cond.static y).before args s = true) (hn : av.length = nA) (hst : st = av.reverse ++ rest) (hroom : 2 * (F0 m pc ls st).monitorRoom + (rest.map fun v => v.category).sum ≤ 8) (hdg : decode cc pc = .ok (.invokestatic index, 3)) (hc : cells + 0 ≤ R.cells) (hs : slots + 0 ≤ R.slots) (kk : ∀ (H1 : Heap) (locs1 : List Loc), cB D ad cy A s.heap σ0 H1 locs1 → W p l e R s m args below meth c H1 locs1 cells slots Q (F0 m (pc + 3) ls (rv.toList ++ rest))) : W p l e R s m args below meth c H locs cells slots Q (F0 m pc ls (st)) :=
  rc_after (va_runS (As := av) (rest := rest) ⟨hx, hb, hml, hown, hts⟩ (hM H.size) cw0 ⟨cblind, cbegin hV hB⟩ rfl hn hls hst hroom hdg ⟨hc, hs⟩) hB.2.2.2 (cfree hV hB) (cfree hV hB) kk
theorem rc_callN {y : MethodName} {wsy : List Cond} {rm : Room} {bytes : ByteArray} {maxL nL nA : Nat} {ret : Option FieldType} {av st : List Value} {rv : Option Value} (hx : p.tables.exec = Jvm.exec) (hb : c.code = cc) (hml : c.maxLocals = nL) (hown : s.vm.findClass own = some m.cls) (hts : ∀ w ∈ Ts, w.before args s = true) (hls : ls.size = nL) (hV : cV D cy z A s) (hB : cB D ad cy A s.heap σ H locs) {host : String} (hM : cM l y wsy rm D ad cy z av σ rv σ0) (cw0 : va_CN R s args own index y host bytes maxL ret wsy rm 0 0 nA ∧ (Cond.static y).before args s = true ∧ True) (hn : av.length = nA) (hst : st = av.reverse ++ rest) (hroom : 2 * (F0 m pc ls st).monitorRoom + (rest.map fun v => v.category).sum ≤ 8) (hdg : decode cc pc = .ok (.invokestatic index, 3)) (hc : cells + 0 ≤ R.cells) (hs : slots + 0 ≤ R.slots) (kk : ∀ (H1 : Heap) (locs1 : List Loc), cB D ad cy A s.heap σ0 H1 locs1 → W p l e R s m args below meth c H1 locs1 cells slots Q (F0 m (pc + 3) ls (rv.toList ++ rest))) : W p l e R s m args below meth c H locs cells slots Q (F0 m pc ls (st)) :=
  rc_after (va_runSN (As := av) (rest := rest) ⟨hx, hb, hml, hown, hts⟩ (hM H.size) cw0 ⟨cblind, cbegin hV hB⟩ rfl hn hls hst hroom hdg ⟨hc, hs⟩) hB.2.2.2 (cfree hV hB) (cfree hV hB) kk
theorem rc_callK {y : MethodName} {wsy : List Cond} {rm : Room} {bytes : ByteArray} {maxL nL nA : Nat} {ret : Option FieldType} {av st : List Value} {rv : Option Value} (hx : p.tables.exec = Jvm.exec) (hb : c.code = cc) (hml : c.maxLocals = nL) (hown : s.vm.findClass own = some m.cls) (hts : ∀ w ∈ Ts, w.before args s = true) (hls : ls.size = nL) (hV : cV D cy z A s) (hB : cB D ad cy A s.heap σ H locs) (hM : cM l y wsy rm D ad cy z (.ref (z.2.1 0) :: av) σ rv σ0) (cw0 : CallW R s args own RJ0 index y bytes maxL ret wsy rm 0 0 nA) (hn : av.length = nA) (hst : st = av.reverse ++ .ref (z.2.1 0) :: rest) (hroom : 2 * (F0 m pc ls st).monitorRoom + (rest.map fun v => v.category).sum ≤ 8) (hdg : decode cc pc = .ok (.invokevirtual index, 3)) (hc : cells + 0 ≤ R.cells) (hs : slots + 0 ≤ R.slots) (kk : ∀ (H1 : Heap) (locs1 : List Loc), cB D ad cy A s.heap σ0 H1 locs1 → W p l e R s m args below meth c H1 locs1 cells slots Q (F0 m (pc + 3) ls (rv.toList ++ rest))) : W p l e R s m args below meth c H locs cells slots Q (F0 m pc ls (st)) :=
  rc_after (va_runV (As := av) (rest := rest) ⟨hx, hb, hml, hown, hts⟩ (hM H.size) cw0 ⟨cblind, vk_recv hV.2.2.2.2.2.2.2.2 (by decide) hB.2.2.2, cbegin hV hB⟩ rfl hn hls hst hroom hdg ⟨hc, hs⟩) hB.2.2.2 (cfree hV hB) (cfree hV hB) kk
theorem rc_copy (hx : p.tables.exec = Jvm.exec) (hb : c.code = cc) (hml : c.maxLocals = ls.size) (hown : s.vm.findClass own = some m.cls) (hlink : (Cond.methodLink own index arraycopyName).before args s = true) (hnat : (Cond.native arraycopyName).before args s = true) (hstat : (Cond.static arraycopyName).before args s = true) (hini : (Cond.initialized "java/lang/System").before args s = true) (hV : cV D cy z A s) (hB : cB D ad cy A s.heap σ H locs) (b a : Nat) (hbn : b < σ.2.2.2.2.2) (ha : a < σ.2.2.2.2.2) {n0 n1 : Nat} (hb0 : cel ad cy σ b = .inl (cy.1, n0, .inl (σ.1 b))) (hcel : cel ad cy σ a = .inl (cy.1, n1, .inl (σ.1 a))) (hset : ∀ f : Nat → Int32, cel ad cy (cpr σ a f) a = .inl (cy.1, n1, .inl f)) {sp dp n : Int32} (h1 : ¬ sp < 0) (h2 : ¬ dp < 0) (h3 : ¬ n < 0) (h4 : sp.toNatClampNeg + n.toNatClampNeg ≤ n0) (h5 : dp.toNatClampNeg + n.toNatClampNeg ≤ n1) (hframes : 1 ≤ R.frames) (hlocals : (rest.map fun v => v.category).sum + (nativeFrameWords "java/lang/System" "arraycopy" 5 + 11) ≤ R.locals) (hdg : decode cc pc = .ok (.invokestatic index, 3)) (kk : ∀ σ1 : CS, σ1 = cpr σ a (va_cpy (σ.1 b) (σ.1 a) sp.toNatClampNeg dp.toNatClampNeg n.toNatClampNeg) → ∀ (H1 : Heap) (locs1 : List Loc), cB D ad cy A s.heap σ1 H1 locs1 → W p l e R s m args below meth c H1 locs1 cells slots Q (F0 m (pc + 3) ls (rest))) : W p l e R s m args below meth c H locs cells slots Q (F0 m pc ls (.int n :: .int dp :: .ref (ad a) :: .int sp :: .ref (ad b) :: rest)) := by
  have hw : (cw ad cy σ).set a (ad a, .inl (cy.1, n1, .inl (va_cpy (σ.1 b) (σ.1 a) sp.toNatClampNeg dp.toNatClampNeg n.toNatClampNeg))) = cw ad cy (cpr σ a (va_cpy (σ.1 b) (σ.1 a) sp.toNatClampNeg dp.toNatClampNeg n.toNatClampNeg)) := cw_set rfl ha (hset _) cel_cpr
  exact va_copyi hx hb hml hown hlink hnat hstat hini hV.1 hB.2.1 hB.2.2.1 hB.2.2.2 b a 0 0 ((cw_at hbn).trans (by rw [hb0])) ((cw_at ha).trans (by rw [hcel])) rfl rfl rfl h1 h2 h3 h4 h5 (fun _ _ => rfl) hframes hlocals hdg (fun H1 locs1 hP hD hS => kk _ rfl H1 locs1 ⟨hB.1, by rw [hw] at hP; exact hP, by rw [hw] at hD; exact hD, hS⟩)
end
theorem rc_met {l : Launch} {y : MethodName} {Ts ws' : List Cond} {rm : Room} {D : va_G} {ad : Nat → Nat} {cy : CY} {z : CZ} {av : List Value} {σ σ0 : CS} {rv : Option Value} {cc : ByteArray} {nL : Nat} {ret : Option FieldType} (hy : plainName y.cls = true) (hw : Ts = Cond.code y cc nL ret :: ws') (hn : (lg_sl av).length ≤ nL)
    (body : ∀ (p : Program) (e : Env) (s : State) (m : MethodId) (below : List Frame) (meth : Method) (c : Code) (A : Nat → Prop) (ls : Array Slot), cxB y.cls ws' cc nL ret p s m av.toArray meth c → cV D cy z A s → cB D ad cy A s.heap σ s.heap [] → lv_has ls nL (lv_args 0 av) → W p l e rm s m av.toArray below meth c s.heap [] 0 0 (MQ below (cQ D ad cy A rv σ0) av.toArray s 0 0 A) (F0 m 0 ls [])) : cM l y Ts rm D ad cy z av σ rv σ0 := by
  intro sz
  refine Met.ofW (cc := cc) (maxL := nL) (ret := ret) hy hw ?_
  intro p e s m args below meth c s₁ B hml hv
  obtain ⟨rfl, hsz, hn4, hP, hK, hD0, hE⟩ := hv
  subst hsz
  have hD := hD0.self (sz := s.heap.size)
  generalize hAe : va_A (cw ad cy σ) s.heap.size = A at hD hE ⊢
  have hA : ∀ q : Nat, s.heap.size ≤ q → A q := fun q h => by rw [← hAe]; exact Or.inr h
  have hl := lv_entry av (n := nL) hn
  rw [lg_entry_eq]
  generalize (lg_sl av ++ List.replicate (nL - (lg_sl av).length) Slot.unset).toArray = ls at hl ⊢
  exact body p e s m below meth c A ls ⟨B.exec, B.bytes, hml, findClass_of_methodNamed B.named, fun w h => atoms_spec (ws := Ts) B.pre w (by rw [hw]; exact List.mem_cons_of_mem _ h), B.returns, B.notSynchronized⟩ ⟨hK, hA, hE⟩ ⟨hn4, hP, hD, va_S.rf⟩ hl
section
variable {p : Program} {l : Launch} {e : Env} {R : Room} {s : State} {m : MethodId} {args : Array Value} {below : List Frame} {meth : Method} {c : Code} {H : Heap} {locs : List Loc} {cc : ByteArray} {pc : Nat} {ls : Array Slot} {D : va_G} {A : Nat → Prop} {ad : Nat → Nat} {cy : CY} {σ : CS}
theorem rc_iret {v : Int32} (hx : p.tables.exec = Jvm.exec) (hb : c.code = cc) (hr : meth.sig.returnType = some .int) (hlocks : meth.locks = false) (hB : cB D ad cy A s.heap σ H locs) (hdg : decode cc pc = .ok (.ireturn, 1)) : W p l e R s m args below meth c H locs 0 0 (MQ below (cQ D ad cy A (some (.int v)) σ) args s 0 0 A) (F0 m pc ls [.int v]) :=
  W.iret (v := v) hx hb hr (fun t ht hW => ⟨⟨rfl, hB.1, by rw [ht]; exact hB.2.1, hB.2.2.1⟩, hB.2.2.2.F ht⟩) hB.2.2.2.2.2 hdg hlocks
theorem rc_zret {v : Int32} (hx : p.tables.exec = Jvm.exec) (hb : c.code = cc) (hr : meth.sig.returnType = some .boolean) (hlocks : meth.locks = false) (hn : narrow .boolean (.int v) = .int v) (hB : cB D ad cy A s.heap σ H locs) (hdg : decode cc pc = .ok (.ireturn, 1)) : W p l e R s m args below meth c H locs 0 0 (MQ below (cQ D ad cy A (some (.int v)) σ) args s 0 0 A) (F0 m pc ls [.int v]) :=
  W.zret (v := v) hx hb hr hn (fun t ht hW => ⟨⟨rfl, hB.1, by rw [ht]; exact hB.2.1, hB.2.2.1⟩, hB.2.2.2.F ht⟩) hB.2.2.2.2.2 hdg hlocks
theorem rc_lret {v : Int64} (hx : p.tables.exec = Jvm.exec) (hb : c.code = cc) (hr : meth.sig.returnType = some .long) (hlocks : meth.locks = false) (hB : cB D ad cy A s.heap σ H locs) (hdg : decode cc pc = .ok (.lreturn, 1)) : W p l e R s m args below meth c H locs 0 0 (MQ below (cQ D ad cy A (some (.long v)) σ) args s 0 0 A) (F0 m pc ls [.long v]) :=
  W.lret (v := v) hx hb hr (fun t ht hW => ⟨⟨rfl, hB.1, by rw [ht]; exact hB.2.1, hB.2.2.1⟩, hB.2.2.2.F ht⟩) hB.2.2.2.2.2 hdg hlocks
theorem rc_vret (hx : p.tables.exec = Jvm.exec) (hb : c.code = cc) (hr : meth.sig.returnType = none) (hlocks : meth.locks = false) (hB : cB D ad cy A s.heap σ H locs) (hdg : decode cc pc = .ok (.return_, 1)) : W p l e R s m args below meth c H locs 0 0 (MQ below (cQ D ad cy A none σ) args s 0 0 A) (F0 m pc ls []) :=
  W.vret hx hb hr (fun t ht hW => ⟨⟨rfl, hB.1, by rw [ht]; exact hB.2.1, hB.2.2.1⟩, hB.2.2.2.F ht⟩) hB.2.2.2.2.2 hdg hlocks
theorem rc_aret {v : Value} {rt : FieldType} (hx : p.tables.exec = Jvm.exec) (hb : c.code = cc) (hr : meth.sig.returnType = some rt) (hlocks : meth.locks = false) (hrt : (∃ n, rt = .object n) ∨ ∃ t, rt = .array t) (hv : v = .null ∨ ∃ a, v = .ref a) (hB : cB D ad cy A s.heap σ H locs) (hdg : decode cc pc = .ok (.areturn, 1)) : W p l e R s m args below meth c H locs 0 0 (MQ below (cQ D ad cy A (some v) σ) args s 0 0 A) (F0 m pc ls [v]) :=
  W.aret hx hb hr hrt hv (fun t ht hW => ⟨⟨rfl, hB.1, by rw [ht]; exact hB.2.1, hB.2.2.1⟩, hB.2.2.2.F ht⟩) hB.2.2.2.2.2 hdg hlocks
end
theorem va_rf_cases (o : Option Nat) : va_rf o = .null ∨ ∃ a, va_rf o = .ref a := by cases o with | none => exact Or.inl rfl | some a => exact Or.inr ⟨a, rfl⟩
