/-- the reference's numbers: place 0 its own int fields by slots, places 1 .. 24 its arrays; long fields by slots -/
abbrev MS : Type := (Nat → Nat → Int32) × (Nat → Int64)
def mfs (ad : Nat → Nat) (σ : MS) : List Value := [.ref (ad 1), .ref (ad 2), .ref (ad 3), .ref (ad 4), .ref (ad 5), .ref (ad 6), .ref (ad 7), .ref (ad 8), .ref (ad 9), .int (σ.1 0 9), .int (σ.1 0 10), .int (σ.1 0 11), .int (σ.1 0 12), .ref (ad 10), .ref (ad 11), .ref (ad 12), .ref (ad 13), .ref (ad 14), .ref (ad 15), .ref (ad 16), .ref (ad 17), .int (σ.1 0 21), .int (σ.1 0 22), .int (σ.1 0 23), .int (σ.1 0 24), .int (σ.1 0 25), .int (σ.1 0 26), .int (σ.1 0 27), .int (σ.1 0 28), .int (σ.1 0 29), .int (σ.1 0 30), .int (σ.1 0 31), .int (σ.1 0 32), .ref (ad 18), .int (σ.1 0 34), .int (σ.1 0 35), .ref (ad 19), .ref (ad 20), .int (σ.1 0 38), .int (σ.1 0 39), .int (σ.1 0 40), .int (σ.1 0 41), .int (σ.1 0 42), .int (σ.1 0 43), .int (σ.1 0 44), .int (σ.1 0 45), .long (σ.2 46), .ref (ad 21), .int (σ.1 0 48), .int (σ.1 0 49), .ref (ad 22), .ref (ad 23), .int (σ.1 0 52), .ref (ad 24), .int (σ.1 0 54), .int (σ.1 0 55), .int (σ.1 0 56), .long (σ.2 57)]
def mw (ad : Nat → Nat) (cy : ClassId) (σ : MS) : va_W := [(ad 0, .inr (8, mfs ad σ)), (ad 1, .inl (cy, 7, .inl (σ.1 1))), (ad 2, .inl (cy, 20, .inl (σ.1 2))), (ad 3, .inl (cy, 7, .inl (σ.1 3))), (ad 4, .inl (cy, 7, .inl (σ.1 4))), (ad 5, .inl (cy, 7, .inl (σ.1 5))), (ad 6, .inl (cy, 7, .inl (σ.1 6))), (ad 7, .inl (cy, 7, .inl (σ.1 7))), (ad 8, .inl (cy, 4, .inl (σ.1 8))), (ad 9, .inl (cy, 4, .inl (σ.1 9))), (ad 10, .inl (cy, 9, .inl (σ.1 10))), (ad 11, .inl (cy, 9, .inl (σ.1 11))), (ad 12, .inl (cy, 9, .inl (σ.1 12))), (ad 13, .inl (cy, 9, .inl (σ.1 13))), (ad 14, .inl (cy, 300, .inl (σ.1 14))), (ad 15, .inl (cy, 10, .inl (σ.1 15))), (ad 16, .inl (cy, 24, .inl (σ.1 16))), (ad 17, .inl (cy, 24, .inl (σ.1 17))), (ad 18, .inl (cy, 9, .inl (σ.1 18))), (ad 19, .inl (cy, 100, .inl (σ.1 19))), (ad 20, .inl (cy, 100, .inl (σ.1 20))), (ad 21, .inl (cy, 24, .inl (σ.1 21))), (ad 22, .inl (cy, 4, .inl (σ.1 22))), (ad 23, .inl (cy, 4, .inl (σ.1 23))), (ad 24, .inl (cy, 800, .inl (σ.1 24)))]
def mp (σ : MS) (a k : Nat) (v : Int32) : MS := (va_up σ.1 a (upd (σ.1 a) k v), σ.2)
def mq (σ : MS) (k : Nat) (v : Int64) : MS := (σ.1, va_up σ.2 k v)
def ib (i : Int32) (n : Nat) : Bool := !(decide (i < 0)) && decide (i.toNatClampNeg < n)
theorem ib_in {i : Int32} {n : Nat} (h : ib i n = true) : vp_in i n := by
  simp only [ib, Bool.and_eq_true, Bool.not_eq_true', decide_eq_false_iff_not, decide_eq_true_eq] at h
  intro q
  rcases q with q | q
  · exact h.1 q
  · exact absurd h.2 (Nat.not_lt.mpr q)
def zb (v : Int32) : Bool := decide (v = 0) || decide (v = 1)
theorem zb_n {v : Int32} (h : zb v = true) : narrow .boolean (.int v) = .int v := by
  simp only [zb, Bool.or_eq_true, decide_eq_true_eq] at h
  rcases h with rfl | rfl <;> rfl
def sq {α β : Type} (x : α) (f : α → β) : β := f x
theorem sq_e {α β : Type} {x : α} {f : α → β} {y : β} (h : sq x f = y) (z : α) (e : z = x) : f z = y := by subst e; exact h
theorem sq_s {α β : Type} {x : α} {f : α → β} {y : β} (h : sq x f = y) : f x = y := h
def ck {α : Type} (b : Bool) (x : Option α) : Option α := match b with | true => x | false => none
theorem ck_e {α : Type} {b : Bool} {x : Option α} {y : α} (h : ck b x = some y) : b = true ∧ x = some y := by cases b with | true => exact ⟨rfl, h⟩ | false => cases h
def bd {α β γ : Type} (o : Option (α × β)) (f : α → β → Option γ) : Option γ := match o with | none => none | some q => f q.1 q.2
theorem bd_e {α β γ : Type} {o : Option (α × β)} {f : α → β → Option γ} {y : γ} (h : bd o f = some y) : ∃ a b, o = some (a, b) ∧ f a b = some y := by cases o with | none => cases h | some q => exact ⟨q.1, q.2, rfl, h⟩
theorem so_e {α β : Type} {a c : α} {b d : β} (h : some (a, b) = some (c, d)) : a = c ∧ b = d := by injection h with h; injection h with h1 h2; exact ⟨h1, h2⟩
theorem it_t {α : Type} {c : Prop} [Decidable c] {x y z : α} (h : (if c then x else y) = z) (hc : c) : x = z := by rw [if_pos hc] at h; exact h
theorem it_f {α : Type} {c : Prop} [Decidable c] {x y z : α} (h : (if c then x else y) = z) (hc : ¬ c) : y = z := by rw [if_neg hc] at h; exact h
theorem ms_9 (ad : Nat → Nat) (σ : MS) (v : Int32) : (mfs ad σ).set 9 (.int v) = mfs ad (mp σ 0 9 v) := rfl
theorem ms_10 (ad : Nat → Nat) (σ : MS) (v : Int32) : (mfs ad σ).set 10 (.int v) = mfs ad (mp σ 0 10 v) := rfl
theorem ms_11 (ad : Nat → Nat) (σ : MS) (v : Int32) : (mfs ad σ).set 11 (.int v) = mfs ad (mp σ 0 11 v) := rfl
theorem ms_12 (ad : Nat → Nat) (σ : MS) (v : Int32) : (mfs ad σ).set 12 (.int v) = mfs ad (mp σ 0 12 v) := rfl
theorem ms_21 (ad : Nat → Nat) (σ : MS) (v : Int32) : (mfs ad σ).set 21 (.int v) = mfs ad (mp σ 0 21 v) := rfl
theorem ms_22 (ad : Nat → Nat) (σ : MS) (v : Int32) : (mfs ad σ).set 22 (.int v) = mfs ad (mp σ 0 22 v) := rfl
theorem ms_23 (ad : Nat → Nat) (σ : MS) (v : Int32) : (mfs ad σ).set 23 (.int v) = mfs ad (mp σ 0 23 v) := rfl
theorem ms_24 (ad : Nat → Nat) (σ : MS) (v : Int32) : (mfs ad σ).set 24 (.int v) = mfs ad (mp σ 0 24 v) := rfl
theorem ms_25 (ad : Nat → Nat) (σ : MS) (v : Int32) : (mfs ad σ).set 25 (.int v) = mfs ad (mp σ 0 25 v) := rfl
theorem ms_26 (ad : Nat → Nat) (σ : MS) (v : Int32) : (mfs ad σ).set 26 (.int v) = mfs ad (mp σ 0 26 v) := rfl
theorem ms_27 (ad : Nat → Nat) (σ : MS) (v : Int32) : (mfs ad σ).set 27 (.int v) = mfs ad (mp σ 0 27 v) := rfl
theorem ms_28 (ad : Nat → Nat) (σ : MS) (v : Int32) : (mfs ad σ).set 28 (.int v) = mfs ad (mp σ 0 28 v) := rfl
theorem ms_29 (ad : Nat → Nat) (σ : MS) (v : Int32) : (mfs ad σ).set 29 (.int v) = mfs ad (mp σ 0 29 v) := rfl
theorem ms_30 (ad : Nat → Nat) (σ : MS) (v : Int32) : (mfs ad σ).set 30 (.int v) = mfs ad (mp σ 0 30 v) := rfl
theorem ms_31 (ad : Nat → Nat) (σ : MS) (v : Int32) : (mfs ad σ).set 31 (.int v) = mfs ad (mp σ 0 31 v) := rfl
theorem ms_32 (ad : Nat → Nat) (σ : MS) (v : Int32) : (mfs ad σ).set 32 (.int v) = mfs ad (mp σ 0 32 v) := rfl
theorem ms_34 (ad : Nat → Nat) (σ : MS) (v : Int32) : (mfs ad σ).set 34 (.int v) = mfs ad (mp σ 0 34 v) := rfl
theorem ms_35 (ad : Nat → Nat) (σ : MS) (v : Int32) : (mfs ad σ).set 35 (.int v) = mfs ad (mp σ 0 35 v) := rfl
theorem ms_38 (ad : Nat → Nat) (σ : MS) (v : Int32) : (mfs ad σ).set 38 (.int v) = mfs ad (mp σ 0 38 v) := rfl
theorem ms_39 (ad : Nat → Nat) (σ : MS) (v : Int32) : (mfs ad σ).set 39 (.int v) = mfs ad (mp σ 0 39 v) := rfl
theorem ms_40 (ad : Nat → Nat) (σ : MS) (v : Int32) : (mfs ad σ).set 40 (.int v) = mfs ad (mp σ 0 40 v) := rfl
theorem ms_41 (ad : Nat → Nat) (σ : MS) (v : Int32) : (mfs ad σ).set 41 (.int v) = mfs ad (mp σ 0 41 v) := rfl
theorem ms_42 (ad : Nat → Nat) (σ : MS) (v : Int32) : (mfs ad σ).set 42 (.int v) = mfs ad (mp σ 0 42 v) := rfl
theorem ms_43 (ad : Nat → Nat) (σ : MS) (v : Int32) : (mfs ad σ).set 43 (.int v) = mfs ad (mp σ 0 43 v) := rfl
theorem ms_44 (ad : Nat → Nat) (σ : MS) (v : Int32) : (mfs ad σ).set 44 (.int v) = mfs ad (mp σ 0 44 v) := rfl
theorem ms_45 (ad : Nat → Nat) (σ : MS) (v : Int32) : (mfs ad σ).set 45 (.int v) = mfs ad (mp σ 0 45 v) := rfl
theorem ms_46 (ad : Nat → Nat) (σ : MS) (v : Int64) : (mfs ad σ).set 46 (.long v) = mfs ad (mq σ 46 v) := rfl
theorem ms_48 (ad : Nat → Nat) (σ : MS) (v : Int32) : (mfs ad σ).set 48 (.int v) = mfs ad (mp σ 0 48 v) := rfl
theorem ms_49 (ad : Nat → Nat) (σ : MS) (v : Int32) : (mfs ad σ).set 49 (.int v) = mfs ad (mp σ 0 49 v) := rfl
theorem ms_52 (ad : Nat → Nat) (σ : MS) (v : Int32) : (mfs ad σ).set 52 (.int v) = mfs ad (mp σ 0 52 v) := rfl
theorem ms_54 (ad : Nat → Nat) (σ : MS) (v : Int32) : (mfs ad σ).set 54 (.int v) = mfs ad (mp σ 0 54 v) := rfl
theorem ms_55 (ad : Nat → Nat) (σ : MS) (v : Int32) : (mfs ad σ).set 55 (.int v) = mfs ad (mp σ 0 55 v) := rfl
theorem ms_56 (ad : Nat → Nat) (σ : MS) (v : Int32) : (mfs ad σ).set 56 (.int v) = mfs ad (mp σ 0 56 v) := rfl
theorem ms_57 (ad : Nat → Nat) (σ : MS) (v : Int64) : (mfs ad σ).set 57 (.long v) = mfs ad (mq σ 57 v) := rfl
theorem msa_1 (ad : Nat → Nat) (cy : ClassId) (σ : MS) (f : Nat → Int32) : (mw ad cy σ).set 1 (ad 1, .inl (cy, 7, .inl f)) = mw ad cy (va_up σ.1 1 f, σ.2) := rfl
theorem msa_2 (ad : Nat → Nat) (cy : ClassId) (σ : MS) (f : Nat → Int32) : (mw ad cy σ).set 2 (ad 2, .inl (cy, 20, .inl f)) = mw ad cy (va_up σ.1 2 f, σ.2) := rfl
theorem msa_3 (ad : Nat → Nat) (cy : ClassId) (σ : MS) (f : Nat → Int32) : (mw ad cy σ).set 3 (ad 3, .inl (cy, 7, .inl f)) = mw ad cy (va_up σ.1 3 f, σ.2) := rfl
theorem msa_4 (ad : Nat → Nat) (cy : ClassId) (σ : MS) (f : Nat → Int32) : (mw ad cy σ).set 4 (ad 4, .inl (cy, 7, .inl f)) = mw ad cy (va_up σ.1 4 f, σ.2) := rfl
theorem msa_5 (ad : Nat → Nat) (cy : ClassId) (σ : MS) (f : Nat → Int32) : (mw ad cy σ).set 5 (ad 5, .inl (cy, 7, .inl f)) = mw ad cy (va_up σ.1 5 f, σ.2) := rfl
theorem msa_6 (ad : Nat → Nat) (cy : ClassId) (σ : MS) (f : Nat → Int32) : (mw ad cy σ).set 6 (ad 6, .inl (cy, 7, .inl f)) = mw ad cy (va_up σ.1 6 f, σ.2) := rfl
theorem msa_7 (ad : Nat → Nat) (cy : ClassId) (σ : MS) (f : Nat → Int32) : (mw ad cy σ).set 7 (ad 7, .inl (cy, 7, .inl f)) = mw ad cy (va_up σ.1 7 f, σ.2) := rfl
theorem msa_8 (ad : Nat → Nat) (cy : ClassId) (σ : MS) (f : Nat → Int32) : (mw ad cy σ).set 8 (ad 8, .inl (cy, 4, .inl f)) = mw ad cy (va_up σ.1 8 f, σ.2) := rfl
theorem msa_9 (ad : Nat → Nat) (cy : ClassId) (σ : MS) (f : Nat → Int32) : (mw ad cy σ).set 9 (ad 9, .inl (cy, 4, .inl f)) = mw ad cy (va_up σ.1 9 f, σ.2) := rfl
theorem msa_10 (ad : Nat → Nat) (cy : ClassId) (σ : MS) (f : Nat → Int32) : (mw ad cy σ).set 10 (ad 10, .inl (cy, 9, .inl f)) = mw ad cy (va_up σ.1 10 f, σ.2) := rfl
theorem msa_11 (ad : Nat → Nat) (cy : ClassId) (σ : MS) (f : Nat → Int32) : (mw ad cy σ).set 11 (ad 11, .inl (cy, 9, .inl f)) = mw ad cy (va_up σ.1 11 f, σ.2) := rfl
theorem msa_12 (ad : Nat → Nat) (cy : ClassId) (σ : MS) (f : Nat → Int32) : (mw ad cy σ).set 12 (ad 12, .inl (cy, 9, .inl f)) = mw ad cy (va_up σ.1 12 f, σ.2) := rfl
theorem msa_13 (ad : Nat → Nat) (cy : ClassId) (σ : MS) (f : Nat → Int32) : (mw ad cy σ).set 13 (ad 13, .inl (cy, 9, .inl f)) = mw ad cy (va_up σ.1 13 f, σ.2) := rfl
theorem msa_14 (ad : Nat → Nat) (cy : ClassId) (σ : MS) (f : Nat → Int32) : (mw ad cy σ).set 14 (ad 14, .inl (cy, 300, .inl f)) = mw ad cy (va_up σ.1 14 f, σ.2) := rfl
theorem msa_15 (ad : Nat → Nat) (cy : ClassId) (σ : MS) (f : Nat → Int32) : (mw ad cy σ).set 15 (ad 15, .inl (cy, 10, .inl f)) = mw ad cy (va_up σ.1 15 f, σ.2) := rfl
theorem msa_16 (ad : Nat → Nat) (cy : ClassId) (σ : MS) (f : Nat → Int32) : (mw ad cy σ).set 16 (ad 16, .inl (cy, 24, .inl f)) = mw ad cy (va_up σ.1 16 f, σ.2) := rfl
theorem msa_17 (ad : Nat → Nat) (cy : ClassId) (σ : MS) (f : Nat → Int32) : (mw ad cy σ).set 17 (ad 17, .inl (cy, 24, .inl f)) = mw ad cy (va_up σ.1 17 f, σ.2) := rfl
theorem msa_18 (ad : Nat → Nat) (cy : ClassId) (σ : MS) (f : Nat → Int32) : (mw ad cy σ).set 18 (ad 18, .inl (cy, 9, .inl f)) = mw ad cy (va_up σ.1 18 f, σ.2) := rfl
theorem msa_19 (ad : Nat → Nat) (cy : ClassId) (σ : MS) (f : Nat → Int32) : (mw ad cy σ).set 19 (ad 19, .inl (cy, 100, .inl f)) = mw ad cy (va_up σ.1 19 f, σ.2) := rfl
theorem msa_20 (ad : Nat → Nat) (cy : ClassId) (σ : MS) (f : Nat → Int32) : (mw ad cy σ).set 20 (ad 20, .inl (cy, 100, .inl f)) = mw ad cy (va_up σ.1 20 f, σ.2) := rfl
theorem msa_21 (ad : Nat → Nat) (cy : ClassId) (σ : MS) (f : Nat → Int32) : (mw ad cy σ).set 21 (ad 21, .inl (cy, 24, .inl f)) = mw ad cy (va_up σ.1 21 f, σ.2) := rfl
theorem msa_22 (ad : Nat → Nat) (cy : ClassId) (σ : MS) (f : Nat → Int32) : (mw ad cy σ).set 22 (ad 22, .inl (cy, 4, .inl f)) = mw ad cy (va_up σ.1 22 f, σ.2) := rfl
theorem msa_23 (ad : Nat → Nat) (cy : ClassId) (σ : MS) (f : Nat → Int32) : (mw ad cy σ).set 23 (ad 23, .inl (cy, 4, .inl f)) = mw ad cy (va_up σ.1 23 f, σ.2) := rfl
theorem msa_24 (ad : Nat → Nat) (cy : ClassId) (σ : MS) (f : Nat → Int32) : (mw ad cy σ).set 24 (ad 24, .inl (cy, 800, .inl f)) = mw ad cy (va_up σ.1 24 f, σ.2) := rfl
theorem ms0 (ad : Nat → Nat) (cy : ClassId) (σ : MS) (k : Nat) (v : Int32) : (mw ad cy σ).set 0 (ad 0, .inr (8, mfs ad (mp σ 0 k v))) = mw ad cy (mp σ 0 k v) := rfl
theorem ms0l (ad : Nat → Nat) (cy : ClassId) (σ : MS) (k : Nat) (v : Int64) : (mw ad cy σ).set 0 (ad 0, .inr (8, mfs ad (mq σ k v))) = mw ad cy (mq σ k v) := rfl
def mB (D : va_G) (ad : Nat → Nat) (cy : ClassId) (A : Nat → Prop) (H0 : Heap) (σ : MS) (H : Heap) (locs : List Loc) : Prop := va_P D vwCl (mw ad cy σ) H ∧ va_D A (mw ad cy σ) ∧ va_S A H0 H locs
def cxB (own : String) (Ts : List Cond) (cc : ByteArray) (nL : Nat) (ret : Option FieldType) (p : Program) (s : State) (m : MethodId) (args : Array Value) (meth : Method) (c : Code) : Prop := p.tables.exec = Jvm.exec ∧ c.code = cc ∧ c.maxLocals = nL ∧ s.vm.findClass own = some m.cls ∧ (∀ w ∈ Ts, w.before args s = true) ∧ meth.sig.returnType = ret ∧ meth.locks = false
def mE (D : va_G) (ad : Nat → Nat) (cy : ClassId) (A : Nat → Prop) (σ0 : MS) (u : MS) (t : State) : Prop := u = σ0 ∧ va_P D vwCl (mw ad cy u) t.heap ∧ va_K D vwCl [(cy, .int)] t ∧ va_D A (mw ad cy u)
def mU (D : va_G) (ad : Nat → Nat) (cy : ClassId) (σ : MS) (sz : Nat) (U : State) : Prop := U.heap.size = sz ∧ va_P D vwCl (mw ad cy σ) U.heap ∧ va_K D vwCl [(cy, .int)] U ∧ va_D (fun _ => True) (mw ad cy σ)
def mQi (D : va_G) (ad : Nat → Nat) (cy : ClassId) (A : Nat → Prop) (r0 : Int32) (σ0 : MS) : Array Value → State → Outcome → State → Prop := va_Qi (fun (r : Int32) (_ : MS) => r = r0) (mE D ad cy A σ0) A
def mMi (l : Launch) (y : MethodName) (ws : List Cond) (rm : Room) (D : va_G) (ad : Nat → Nat) (cy : ClassId) (av : List Value) (σ : MS) (r0 : Int32) (σ0 : MS) : Prop := ∀ sz : Nat, Met l y ws rm (va_Pc av (mU D ad cy σ sz)) (mQi D ad cy (va_A (mw ad cy σ) sz) r0 σ0) 0 0 (va_A (mw ad cy σ) sz)
def mQl (D : va_G) (ad : Nat → Nat) (cy : ClassId) (A : Nat → Prop) (r0 : Int64) (σ0 : MS) : Array Value → State → Outcome → State → Prop := va_Ql (fun (r : Int64) (_ : MS) => r = r0) (mE D ad cy A σ0) A
def mMl (l : Launch) (y : MethodName) (ws : List Cond) (rm : Room) (D : va_G) (ad : Nat → Nat) (cy : ClassId) (av : List Value) (σ : MS) (r0 : Int64) (σ0 : MS) : Prop := ∀ sz : Nat, Met l y ws rm (va_Pc av (mU D ad cy σ sz)) (mQl D ad cy (va_A (mw ad cy σ) sz) r0 σ0) 0 0 (va_A (mw ad cy σ) sz)
def mQv (D : va_G) (ad : Nat → Nat) (cy : ClassId) (A : Nat → Prop) (σ0 : MS) : Array Value → State → Outcome → State → Prop := va_Qv (fun (_ : MS) => True) (mE D ad cy A σ0) A
def mMv (l : Launch) (y : MethodName) (ws : List Cond) (rm : Room) (D : va_G) (ad : Nat → Nat) (cy : ClassId) (av : List Value) (σ : MS) (σ0 : MS) : Prop := ∀ sz : Nat, Met l y ws rm (va_Pc av (mU D ad cy σ sz)) (mQv D ad cy (va_A (mw ad cy σ) sz) σ0) 0 0 (va_A (mw ad cy σ) sz)
section
variable {p : Program} {l : Launch} {e : Env} {R : Room} {s : State} {m : MethodId} {args : Array Value} {below : List Frame} {meth : Method} {c : Code} {H : Heap} {locs : List Loc} {cells slots : Nat} {Q : State → Prop}
variable {cc : ByteArray} {pc : Nat} {ls : Array Slot} {rest : List Value} {D : va_G} {A : Nat → Prop} {ad : Nat → Nat} {cy : ClassId} {σ σ0 : MS} {Ts : List Cond} {index : Nat}
theorem rm_get (hx : p.tables.exec = Jvm.exec) (hb : c.code = cc) (hts : ∀ w ∈ Ts, w.before args s = true) (hin : ∀ w ∈ wsX80, w ∈ Ts) (hown : s.vm.findClass RX8 = some m.cls) (hK : va_K D vwCl [(cy, .int)] s) (hB : mB D ad cy A s.heap σ H locs) (k : Nat) (hk : k < 58) (hlink : Cond.fieldLink RX8 index (TX8 k).1 (TX8 k).2.1 (TX8 k).2.2.1 ∈ Ts) {v : Value} (hv : (mfs ad σ)[k]? = some v) (hdg : decode cc pc = .ok (.getfield index, 3)) (kk : W p l e R s m args below meth c H locs cells slots Q (F0 m (pc + 3) ls (v :: rest))) : W p l e R s m args below meth c H locs cells slots Q (F0 m pc ls (.ref (ad 0) :: rest)) :=
  va_get (D := D) (ci := 8) (C := RX8) (T := TX8) (N := 58) hx hb hts hin hown hK hB.1 0 rfl rfl k hk (hts _ hlink) (fun _ h9 => h9) hv hdg kk
theorem rm_puti (hx : p.tables.exec = Jvm.exec) (hb : c.code = cc) (hts : ∀ w ∈ Ts, w.before args s = true) (hin : ∀ w ∈ wsX80, w ∈ Ts) (hown : s.vm.findClass RX8 = some m.cls) (hK : va_K D vwCl [(cy, .int)] s) (hB : mB D ad cy A s.heap σ H locs) (k : Nat) (hk : k < 58) (hlink : Cond.fieldLink RX8 index (TX8 k).1 (TX8 k).2.1 (TX8 k).2.2.1 ∈ Ts) {v : Int32} {ty : FieldType} (hs : (mfs ad σ).set k (.int v) = mfs ad (mp σ 0 k v)) (hfin : (TX8 k).2.2.2 = false) (hd : parseFieldDescriptor (TX8 k).2.2.1 = some ty) (hn : narrow ty (.int v) = .int v) (hfit : fits ty (.int v) = true) (hdg : decode cc pc = .ok (.putfield index, 3)) (kk : ∀ σ1 : MS, σ1 = mp σ 0 k v → ∀ (H1 : Heap) (locs1 : List Loc), mB D ad cy A s.heap σ1 H1 locs1 → W p l e R s m args below meth c H1 locs1 cells slots Q (F0 m (pc + 3) ls (rest))) : W p l e R s m args below meth c H locs cells slots Q (F0 m pc ls (.int v :: .ref (ad 0) :: rest)) :=
  va_put (D := D) (ci := 8) (C := RX8) (T := TX8) (N := 58) hx hb hts hin tyX8 tyX8_ok nmX8 hown hK hB.1 hB.2.1 hB.2.2 0 rfl rfl k hk (hts _ hlink) (fun _ h9 => h9) hfin hd hn hfit hk hdg (fun H1 locs1 hP hD hS => kk _ rfl H1 locs1 ⟨by rw [hs, ms0] at hP; exact hP, by rw [hs, ms0] at hD; exact hD, hS⟩)
theorem rm_putl (hx : p.tables.exec = Jvm.exec) (hb : c.code = cc) (hts : ∀ w ∈ Ts, w.before args s = true) (hin : ∀ w ∈ wsX80, w ∈ Ts) (hown : s.vm.findClass RX8 = some m.cls) (hK : va_K D vwCl [(cy, .int)] s) (hB : mB D ad cy A s.heap σ H locs) (k : Nat) (hk : k < 58) (hlink : Cond.fieldLink RX8 index (TX8 k).1 (TX8 k).2.1 (TX8 k).2.2.1 ∈ Ts) {v : Int64} (hs : (mfs ad σ).set k (.long v) = mfs ad (mq σ k v)) (hfin : (TX8 k).2.2.2 = false) (hd : parseFieldDescriptor (TX8 k).2.2.1 = some .long) (hdg : decode cc pc = .ok (.putfield index, 3)) (kk : ∀ σ1 : MS, σ1 = mq σ k v → ∀ (H1 : Heap) (locs1 : List Loc), mB D ad cy A s.heap σ1 H1 locs1 → W p l e R s m args below meth c H1 locs1 cells slots Q (F0 m (pc + 3) ls (rest))) : W p l e R s m args below meth c H locs cells slots Q (F0 m pc ls (.long v :: .ref (ad 0) :: rest)) :=
  va_put (D := D) (ci := 8) (C := RX8) (T := TX8) (N := 58) hx hb hts hin tyX8 tyX8_ok nmX8 hown hK hB.1 hB.2.1 hB.2.2 0 rfl rfl k hk (hts _ hlink) (fun _ h9 => h9) hfin hd rfl rfl hk hdg (fun H1 locs1 hP hD hS => kk _ rfl H1 locs1 ⟨by rw [hs, ms0l] at hP; exact hP, by rw [hs, ms0l] at hD; exact hD, hS⟩)
theorem rm_ald (hx : p.tables.exec = Jvm.exec) (hb : c.code = cc) (hK : va_K D vwCl [(cy, .int)] s) (hB : mB D ad cy A s.heap σ H locs) (a : Nat) {n : Nat} (hq : (mw ad cy σ)[a]? = some (ad a, .inl (cy, n, .inl (σ.1 a)))) {i : Int32} (hin : ib i n = true) (hdg : decode cc pc = .ok (.iaload, 1)) (kk : W p l e R s m args below meth c H locs cells slots Q (F0 m (pc + 1) ls (.int (σ.1 a i.toNatClampNeg) :: rest))) : W p l e R s m args below meth c H locs cells slots Q (F0 m pc ls (.int i :: .ref (ad a) :: rest)) :=
  va_iald hx hb hK hB.1 a 0 hq rfl (ib_in hin) hdg kk
theorem rm_ast (hx : p.tables.exec = Jvm.exec) (hb : c.code = cc) (hK : va_K D vwCl [(cy, .int)] s) (hB : mB D ad cy A s.heap σ H locs) (a : Nat) {n : Nat} (hq : (mw ad cy σ)[a]? = some (ad a, .inl (cy, n, .inl (σ.1 a)))) (hset : ∀ f : Nat → Int32, (mw ad cy σ).set a (ad a, .inl (cy, n, .inl f)) = mw ad cy (va_up σ.1 a f, σ.2)) {i x : Int32} (hin : ib i n = true) (hdg : decode cc pc = .ok (.iastore, 1)) (kk : ∀ σ1 : MS, σ1 = mp σ a i.toNatClampNeg x → ∀ (H1 : Heap) (locs1 : List Loc), mB D ad cy A s.heap σ1 H1 locs1 → W p l e R s m args below meth c H1 locs1 cells slots Q (F0 m (pc + 1) ls (rest))) : W p l e R s m args below meth c H locs cells slots Q (F0 m pc ls (.int x :: .int i :: .ref (ad a) :: rest)) :=
  va_iast hx hb hK hB.1 hB.2.1 hB.2.2 a 0 hq rfl (ib_in hin) hdg (fun H1 locs1 hP hD hS => kk _ rfl H1 locs1 ⟨by rw [hset] at hP; exact hP, by rw [hset] at hD; exact hD, hS⟩)
theorem rm_alen (hx : p.tables.exec = Jvm.exec) (hb : c.code = cc) (hK : va_K D vwCl [(cy, .int)] s) (hB : mB D ad cy A s.heap σ H locs) (a : Nat) {n : Nat} (hq : (mw ad cy σ)[a]? = some (ad a, .inl (cy, n, .inl (σ.1 a)))) {v : Int32} (hv : Int32.ofNat n = v) (hdg : decode cc pc = .ok (.arraylength, 1)) (kk : W p l e R s m args below meth c H locs cells slots Q (F0 m (pc + 1) ls (.int v :: rest))) : W p l e R s m args below meth c H locs cells slots Q (F0 m pc ls (.ref (ad a) :: rest)) :=
  va_alen hx hb hK hB.1 a 0 hq rfl hv hdg kk
theorem rm_calliV {r0 : Int32} {y : MethodName} {wsy : List Cond} {rm : Room} {bytes : ByteArray} {maxL nL nA : Nat} {ret : Option FieldType} {own : String} {av st : List Value} (hx : p.tables.exec = Jvm.exec) (hb : c.code = cc) (hml : c.maxLocals = nL) (hown : s.vm.findClass own = some m.cls) (hts : ∀ w ∈ Ts, w.before args s = true) (hls : ls.size = nL) (hK : va_K D vwCl [(cy, .int)] s) (hA : ∀ q, s.heap.size ≤ q → A q) (hB : mB D ad cy A s.heap σ H locs) (hM : mMi l y wsy rm D ad cy (.ref (ad 0) :: av) σ r0 σ0) (cw : CallW R s args own RX8 index y bytes maxL ret wsy rm 0 0 nA) (hn : av.length = nA) (hst : st = av.reverse ++ .ref (ad 0) :: rest) (hroom : 2 * (F0 m pc ls st).monitorRoom + (rest.map fun v => v.category).sum ≤ 8) (hdg : decode cc pc = .ok (.invokevirtual index, 3)) (hc : cells + 0 ≤ R.cells) (hs : slots + 0 ≤ R.slots) (kk : ∀ (H1 : Heap) (locs1 : List Loc), mB D ad cy A s.heap σ0 H1 locs1 → W p l e R s m args below meth c H1 locs1 cells slots Q (F0 m (pc + 3) ls (.int r0 :: rest))) : W p l e R s m args below meth c H locs cells slots Q (F0 m pc ls (st)) := by
  have hF : ∀ q, va_A (mw ad cy σ) H.size q → A q := fun q h => by
    rcases h with ⟨k, e, h⟩ | h
    · exact hB.2.1.2 k (q, e) h
    · exact hA q (Nat.le_trans hB.2.2.1 h)
  refine va_calli (va_runV (As := av) (rest := rest) ⟨hx, hb, hml, hown, hts⟩ (hM H.size) cw ⟨fun a U g mk q => ⟨q.1, q.2.1, q.2.2.1, va_K.moved (u := U) (U := U.calling g mk a) (Vm.Alike.refl U.vm) q.2.2.2.1, q.2.2.2.2⟩, va_recv hK hB.1 (ci := 8) (q0 := 0) rfl rfl, fun U hU hW => ⟨rfl, by rw [hU], by rw [hU]; exact hB.1, va_K.moved hW.alike hK, hB.2.1.weaken (fun _ _ _ _ => trivial)⟩⟩ rfl hn hls hst hroom hdg ⟨hc, hs⟩) hB.2.2 (fun q _ h => hF q h) hF (fun r u t H1 locs1 ht hvm hw hE hz hk hS => ?_)
  obtain rfl : r = r0 := hw
  obtain ⟨rfl, hP1, hK1, hD1⟩ := hE
  rw [ht] at hP1
  exact kk H1 locs1 ⟨hP1, hD1.weaken (fun _ q _ h => hF q.1 h), hS⟩
theorem rm_calliS {r0 : Int32} {y : MethodName} {wsy : List Cond} {rm : Room} {bytes : ByteArray} {maxL nL nA : Nat} {ret : Option FieldType} {own : String} {av st : List Value} (hx : p.tables.exec = Jvm.exec) (hb : c.code = cc) (hml : c.maxLocals = nL) (hown : s.vm.findClass own = some m.cls) (hts : ∀ w ∈ Ts, w.before args s = true) (hls : ls.size = nL) (hK : va_K D vwCl [(cy, .int)] s) (hA : ∀ q, s.heap.size ≤ q → A q) (hB : mB D ad cy A s.heap σ H locs) (hM : mMi l y wsy rm D ad cy av σ r0 σ0) (cw : CallB R s args own index y bytes maxL ret wsy rm 0 0 nA ∧ (Cond.static y).before args s = true) (hn : av.length = nA) (hst : st = av.reverse ++ rest) (hroom : 2 * (F0 m pc ls st).monitorRoom + (rest.map fun v => v.category).sum ≤ 8) (hdg : decode cc pc = .ok (.invokestatic index, 3)) (hc : cells + 0 ≤ R.cells) (hs : slots + 0 ≤ R.slots) (kk : ∀ (H1 : Heap) (locs1 : List Loc), mB D ad cy A s.heap σ0 H1 locs1 → W p l e R s m args below meth c H1 locs1 cells slots Q (F0 m (pc + 3) ls (.int r0 :: rest))) : W p l e R s m args below meth c H locs cells slots Q (F0 m pc ls (st)) := by
  have hF : ∀ q, va_A (mw ad cy σ) H.size q → A q := fun q h => by
    rcases h with ⟨k, e, h⟩ | h
    · exact hB.2.1.2 k (q, e) h
    · exact hA q (Nat.le_trans hB.2.2.1 h)
  refine va_calli (va_runS (As := av) (rest := rest) ⟨hx, hb, hml, hown, hts⟩ (hM H.size) cw ⟨fun a U g mk q => ⟨q.1, q.2.1, q.2.2.1, va_K.moved (u := U) (U := U.calling g mk a) (Vm.Alike.refl U.vm) q.2.2.2.1, q.2.2.2.2⟩, fun U hU hW => ⟨rfl, by rw [hU], by rw [hU]; exact hB.1, va_K.moved hW.alike hK, hB.2.1.weaken (fun _ _ _ _ => trivial)⟩⟩ rfl hn hls hst hroom hdg ⟨hc, hs⟩) hB.2.2 (fun q _ h => hF q h) hF (fun r u t H1 locs1 ht hvm hw hE hz hk hS => ?_)
  obtain rfl : r = r0 := hw
  obtain ⟨rfl, hP1, hK1, hD1⟩ := hE
  rw [ht] at hP1
  exact kk H1 locs1 ⟨hP1, hD1.weaken (fun _ q _ h => hF q.1 h), hS⟩
theorem rm_calllV {r0 : Int64} {y : MethodName} {wsy : List Cond} {rm : Room} {bytes : ByteArray} {maxL nL nA : Nat} {ret : Option FieldType} {own : String} {av st : List Value} (hx : p.tables.exec = Jvm.exec) (hb : c.code = cc) (hml : c.maxLocals = nL) (hown : s.vm.findClass own = some m.cls) (hts : ∀ w ∈ Ts, w.before args s = true) (hls : ls.size = nL) (hK : va_K D vwCl [(cy, .int)] s) (hA : ∀ q, s.heap.size ≤ q → A q) (hB : mB D ad cy A s.heap σ H locs) (hM : mMl l y wsy rm D ad cy (.ref (ad 0) :: av) σ r0 σ0) (cw : CallW R s args own RX8 index y bytes maxL ret wsy rm 0 0 nA) (hn : av.length = nA) (hst : st = av.reverse ++ .ref (ad 0) :: rest) (hroom : 2 * (F0 m pc ls st).monitorRoom + (rest.map fun v => v.category).sum ≤ 8) (hdg : decode cc pc = .ok (.invokevirtual index, 3)) (hc : cells + 0 ≤ R.cells) (hs : slots + 0 ≤ R.slots) (kk : ∀ (H1 : Heap) (locs1 : List Loc), mB D ad cy A s.heap σ0 H1 locs1 → W p l e R s m args below meth c H1 locs1 cells slots Q (F0 m (pc + 3) ls (.long r0 :: rest))) : W p l e R s m args below meth c H locs cells slots Q (F0 m pc ls (st)) := by
  have hF : ∀ q, va_A (mw ad cy σ) H.size q → A q := fun q h => by
    rcases h with ⟨k, e, h⟩ | h
    · exact hB.2.1.2 k (q, e) h
    · exact hA q (Nat.le_trans hB.2.2.1 h)
  refine va_calll (va_runV (As := av) (rest := rest) ⟨hx, hb, hml, hown, hts⟩ (hM H.size) cw ⟨fun a U g mk q => ⟨q.1, q.2.1, q.2.2.1, va_K.moved (u := U) (U := U.calling g mk a) (Vm.Alike.refl U.vm) q.2.2.2.1, q.2.2.2.2⟩, va_recv hK hB.1 (ci := 8) (q0 := 0) rfl rfl, fun U hU hW => ⟨rfl, by rw [hU], by rw [hU]; exact hB.1, va_K.moved hW.alike hK, hB.2.1.weaken (fun _ _ _ _ => trivial)⟩⟩ rfl hn hls hst hroom hdg ⟨hc, hs⟩) hB.2.2 (fun q _ h => hF q h) hF (fun r u t H1 locs1 ht hvm hw hE hz hk hS => ?_)
  obtain rfl : r = r0 := hw
  obtain ⟨rfl, hP1, hK1, hD1⟩ := hE
  rw [ht] at hP1
  exact kk H1 locs1 ⟨hP1, hD1.weaken (fun _ q _ h => hF q.1 h), hS⟩
theorem rm_calllS {r0 : Int64} {y : MethodName} {wsy : List Cond} {rm : Room} {bytes : ByteArray} {maxL nL nA : Nat} {ret : Option FieldType} {own : String} {av st : List Value} (hx : p.tables.exec = Jvm.exec) (hb : c.code = cc) (hml : c.maxLocals = nL) (hown : s.vm.findClass own = some m.cls) (hts : ∀ w ∈ Ts, w.before args s = true) (hls : ls.size = nL) (hK : va_K D vwCl [(cy, .int)] s) (hA : ∀ q, s.heap.size ≤ q → A q) (hB : mB D ad cy A s.heap σ H locs) (hM : mMl l y wsy rm D ad cy av σ r0 σ0) (cw : CallB R s args own index y bytes maxL ret wsy rm 0 0 nA ∧ (Cond.static y).before args s = true) (hn : av.length = nA) (hst : st = av.reverse ++ rest) (hroom : 2 * (F0 m pc ls st).monitorRoom + (rest.map fun v => v.category).sum ≤ 8) (hdg : decode cc pc = .ok (.invokestatic index, 3)) (hc : cells + 0 ≤ R.cells) (hs : slots + 0 ≤ R.slots) (kk : ∀ (H1 : Heap) (locs1 : List Loc), mB D ad cy A s.heap σ0 H1 locs1 → W p l e R s m args below meth c H1 locs1 cells slots Q (F0 m (pc + 3) ls (.long r0 :: rest))) : W p l e R s m args below meth c H locs cells slots Q (F0 m pc ls (st)) := by
  have hF : ∀ q, va_A (mw ad cy σ) H.size q → A q := fun q h => by
    rcases h with ⟨k, e, h⟩ | h
    · exact hB.2.1.2 k (q, e) h
    · exact hA q (Nat.le_trans hB.2.2.1 h)
  refine va_calll (va_runS (As := av) (rest := rest) ⟨hx, hb, hml, hown, hts⟩ (hM H.size) cw ⟨fun a U g mk q => ⟨q.1, q.2.1, q.2.2.1, va_K.moved (u := U) (U := U.calling g mk a) (Vm.Alike.refl U.vm) q.2.2.2.1, q.2.2.2.2⟩, fun U hU hW => ⟨rfl, by rw [hU], by rw [hU]; exact hB.1, va_K.moved hW.alike hK, hB.2.1.weaken (fun _ _ _ _ => trivial)⟩⟩ rfl hn hls hst hroom hdg ⟨hc, hs⟩) hB.2.2 (fun q _ h => hF q h) hF (fun r u t H1 locs1 ht hvm hw hE hz hk hS => ?_)
  obtain rfl : r = r0 := hw
  obtain ⟨rfl, hP1, hK1, hD1⟩ := hE
  rw [ht] at hP1
  exact kk H1 locs1 ⟨hP1, hD1.weaken (fun _ q _ h => hF q.1 h), hS⟩
theorem rm_callvV {y : MethodName} {wsy : List Cond} {rm : Room} {bytes : ByteArray} {maxL nL nA : Nat} {ret : Option FieldType} {own : String} {av st : List Value} (hx : p.tables.exec = Jvm.exec) (hb : c.code = cc) (hml : c.maxLocals = nL) (hown : s.vm.findClass own = some m.cls) (hts : ∀ w ∈ Ts, w.before args s = true) (hls : ls.size = nL) (hK : va_K D vwCl [(cy, .int)] s) (hA : ∀ q, s.heap.size ≤ q → A q) (hB : mB D ad cy A s.heap σ H locs) (hM : mMv l y wsy rm D ad cy (.ref (ad 0) :: av) σ σ0) (cw : CallW R s args own RX8 index y bytes maxL ret wsy rm 0 0 nA) (hn : av.length = nA) (hst : st = av.reverse ++ .ref (ad 0) :: rest) (hroom : 2 * (F0 m pc ls st).monitorRoom + (rest.map fun v => v.category).sum ≤ 8) (hdg : decode cc pc = .ok (.invokevirtual index, 3)) (hc : cells + 0 ≤ R.cells) (hs : slots + 0 ≤ R.slots) (kk : ∀ (H1 : Heap) (locs1 : List Loc), mB D ad cy A s.heap σ0 H1 locs1 → W p l e R s m args below meth c H1 locs1 cells slots Q (F0 m (pc + 3) ls (rest))) : W p l e R s m args below meth c H locs cells slots Q (F0 m pc ls (st)) := by
  have hF : ∀ q, va_A (mw ad cy σ) H.size q → A q := fun q h => by
    rcases h with ⟨k, e, h⟩ | h
    · exact hB.2.1.2 k (q, e) h
    · exact hA q (Nat.le_trans hB.2.2.1 h)
  refine va_callv (va_runV (As := av) (rest := rest) ⟨hx, hb, hml, hown, hts⟩ (hM H.size) cw ⟨fun a U g mk q => ⟨q.1, q.2.1, q.2.2.1, va_K.moved (u := U) (U := U.calling g mk a) (Vm.Alike.refl U.vm) q.2.2.2.1, q.2.2.2.2⟩, va_recv hK hB.1 (ci := 8) (q0 := 0) rfl rfl, fun U hU hW => ⟨rfl, by rw [hU], by rw [hU]; exact hB.1, va_K.moved hW.alike hK, hB.2.1.weaken (fun _ _ _ _ => trivial)⟩⟩ rfl hn hls hst hroom hdg ⟨hc, hs⟩) hB.2.2 (fun q _ h => hF q h) hF (fun u t H1 locs1 ht hvm hw hE hz hk hS => ?_)
  obtain ⟨rfl, hP1, hK1, hD1⟩ := hE
  rw [ht] at hP1
  exact kk H1 locs1 ⟨hP1, hD1.weaken (fun _ q _ h => hF q.1 h), hS⟩
theorem rm_callvS {y : MethodName} {wsy : List Cond} {rm : Room} {bytes : ByteArray} {maxL nL nA : Nat} {ret : Option FieldType} {own : String} {av st : List Value} (hx : p.tables.exec = Jvm.exec) (hb : c.code = cc) (hml : c.maxLocals = nL) (hown : s.vm.findClass own = some m.cls) (hts : ∀ w ∈ Ts, w.before args s = true) (hls : ls.size = nL) (hK : va_K D vwCl [(cy, .int)] s) (hA : ∀ q, s.heap.size ≤ q → A q) (hB : mB D ad cy A s.heap σ H locs) (hM : mMv l y wsy rm D ad cy av σ σ0) (cw : CallB R s args own index y bytes maxL ret wsy rm 0 0 nA ∧ (Cond.static y).before args s = true) (hn : av.length = nA) (hst : st = av.reverse ++ rest) (hroom : 2 * (F0 m pc ls st).monitorRoom + (rest.map fun v => v.category).sum ≤ 8) (hdg : decode cc pc = .ok (.invokestatic index, 3)) (hc : cells + 0 ≤ R.cells) (hs : slots + 0 ≤ R.slots) (kk : ∀ (H1 : Heap) (locs1 : List Loc), mB D ad cy A s.heap σ0 H1 locs1 → W p l e R s m args below meth c H1 locs1 cells slots Q (F0 m (pc + 3) ls (rest))) : W p l e R s m args below meth c H locs cells slots Q (F0 m pc ls (st)) := by
  have hF : ∀ q, va_A (mw ad cy σ) H.size q → A q := fun q h => by
    rcases h with ⟨k, e, h⟩ | h
    · exact hB.2.1.2 k (q, e) h
    · exact hA q (Nat.le_trans hB.2.2.1 h)
  refine va_callv (va_runS (As := av) (rest := rest) ⟨hx, hb, hml, hown, hts⟩ (hM H.size) cw ⟨fun a U g mk q => ⟨q.1, q.2.1, q.2.2.1, va_K.moved (u := U) (U := U.calling g mk a) (Vm.Alike.refl U.vm) q.2.2.2.1, q.2.2.2.2⟩, fun U hU hW => ⟨rfl, by rw [hU], by rw [hU]; exact hB.1, va_K.moved hW.alike hK, hB.2.1.weaken (fun _ _ _ _ => trivial)⟩⟩ rfl hn hls hst hroom hdg ⟨hc, hs⟩) hB.2.2 (fun q _ h => hF q h) hF (fun u t H1 locs1 ht hvm hw hE hz hk hS => ?_)
  obtain ⟨rfl, hP1, hK1, hD1⟩ := hE
  rw [ht] at hP1
  exact kk H1 locs1 ⟨hP1, hD1.weaken (fun _ q _ h => hF q.1 h), hS⟩
end
theorem rm_meti {l : Launch} {y : MethodName} {Ts ws' : List Cond} {rm : Room} {D : va_G} {ad : Nat → Nat} {cy : ClassId} {av : List Value} {σ σ0 : MS} {r0 : Int32} {cc : ByteArray} {nL : Nat} {ret : Option FieldType} (hy : plainName y.cls = true) (hw : Ts = Cond.code y cc nL ret :: ws') (hn : (lg_sl av).length ≤ nL)
    (body : ∀ (p : Program) (e : Env) (s : State) (m : MethodId) (below : List Frame) (meth : Method) (c : Code) (A : Nat → Prop) (ls : Array Slot), cxB y.cls ws' cc nL ret p s m av.toArray meth c → va_K D vwCl [(cy, .int)] s → (∀ q, s.heap.size ≤ q → A q) → mB D ad cy A s.heap σ s.heap [] → lv_has ls nL (lv_args 0 av) → W p l e rm s m av.toArray below meth c s.heap [] 0 0 (MQ below (mQi D ad cy A r0 σ0) av.toArray s 0 0 A) (F0 m 0 ls [])) : mMi l y Ts rm D ad cy av σ r0 σ0 := by
  intro sz
  refine Met.ofW (cc := cc) (maxL := nL) (ret := ret) hy hw ?_
  intro p e s m args below meth c s₁ B hml hv
  obtain ⟨rfl, hsz, hP, hK, hD0⟩ := hv
  subst hsz
  have hD := hD0.self (sz := s.heap.size)
  generalize hAe : va_A (mw ad cy σ) s.heap.size = A at hD ⊢
  have hA : ∀ q : Nat, s.heap.size ≤ q → A q := fun q h => by rw [← hAe]; exact Or.inr h
  have hl := lv_entry av (n := nL) hn
  rw [lg_entry_eq]
  generalize (lg_sl av ++ List.replicate (nL - (lg_sl av).length) Slot.unset).toArray = ls at hl ⊢
  exact body p e s m below meth c A ls ⟨B.exec, B.bytes, hml, findClass_of_methodNamed B.named, fun w h => atoms_spec (ws := Ts) B.pre w (by rw [hw]; exact List.mem_cons_of_mem _ h), B.returns, B.notSynchronized⟩ hK hA ⟨hP, hD, va_S.rf⟩ hl
theorem rm_metl {l : Launch} {y : MethodName} {Ts ws' : List Cond} {rm : Room} {D : va_G} {ad : Nat → Nat} {cy : ClassId} {av : List Value} {σ σ0 : MS} {r0 : Int64} {cc : ByteArray} {nL : Nat} {ret : Option FieldType} (hy : plainName y.cls = true) (hw : Ts = Cond.code y cc nL ret :: ws') (hn : (lg_sl av).length ≤ nL)
    (body : ∀ (p : Program) (e : Env) (s : State) (m : MethodId) (below : List Frame) (meth : Method) (c : Code) (A : Nat → Prop) (ls : Array Slot), cxB y.cls ws' cc nL ret p s m av.toArray meth c → va_K D vwCl [(cy, .int)] s → (∀ q, s.heap.size ≤ q → A q) → mB D ad cy A s.heap σ s.heap [] → lv_has ls nL (lv_args 0 av) → W p l e rm s m av.toArray below meth c s.heap [] 0 0 (MQ below (mQl D ad cy A r0 σ0) av.toArray s 0 0 A) (F0 m 0 ls [])) : mMl l y Ts rm D ad cy av σ r0 σ0 := by
  intro sz
  refine Met.ofW (cc := cc) (maxL := nL) (ret := ret) hy hw ?_
  intro p e s m args below meth c s₁ B hml hv
  obtain ⟨rfl, hsz, hP, hK, hD0⟩ := hv
  subst hsz
  have hD := hD0.self (sz := s.heap.size)
  generalize hAe : va_A (mw ad cy σ) s.heap.size = A at hD ⊢
  have hA : ∀ q : Nat, s.heap.size ≤ q → A q := fun q h => by rw [← hAe]; exact Or.inr h
  have hl := lv_entry av (n := nL) hn
  rw [lg_entry_eq]
  generalize (lg_sl av ++ List.replicate (nL - (lg_sl av).length) Slot.unset).toArray = ls at hl ⊢
  exact body p e s m below meth c A ls ⟨B.exec, B.bytes, hml, findClass_of_methodNamed B.named, fun w h => atoms_spec (ws := Ts) B.pre w (by rw [hw]; exact List.mem_cons_of_mem _ h), B.returns, B.notSynchronized⟩ hK hA ⟨hP, hD, va_S.rf⟩ hl
theorem rm_metv {l : Launch} {y : MethodName} {Ts ws' : List Cond} {rm : Room} {D : va_G} {ad : Nat → Nat} {cy : ClassId} {av : List Value} {σ σ0 : MS} {cc : ByteArray} {nL : Nat} {ret : Option FieldType} (hy : plainName y.cls = true) (hw : Ts = Cond.code y cc nL ret :: ws') (hn : (lg_sl av).length ≤ nL)
    (body : ∀ (p : Program) (e : Env) (s : State) (m : MethodId) (below : List Frame) (meth : Method) (c : Code) (A : Nat → Prop) (ls : Array Slot), cxB y.cls ws' cc nL ret p s m av.toArray meth c → va_K D vwCl [(cy, .int)] s → (∀ q, s.heap.size ≤ q → A q) → mB D ad cy A s.heap σ s.heap [] → lv_has ls nL (lv_args 0 av) → W p l e rm s m av.toArray below meth c s.heap [] 0 0 (MQ below (mQv D ad cy A σ0) av.toArray s 0 0 A) (F0 m 0 ls [])) : mMv l y Ts rm D ad cy av σ σ0 := by
  intro sz
  refine Met.ofW (cc := cc) (maxL := nL) (ret := ret) hy hw ?_
  intro p e s m args below meth c s₁ B hml hv
  obtain ⟨rfl, hsz, hP, hK, hD0⟩ := hv
  subst hsz
  have hD := hD0.self (sz := s.heap.size)
  generalize hAe : va_A (mw ad cy σ) s.heap.size = A at hD ⊢
  have hA : ∀ q : Nat, s.heap.size ≤ q → A q := fun q h => by rw [← hAe]; exact Or.inr h
  have hl := lv_entry av (n := nL) hn
  rw [lg_entry_eq]
  generalize (lg_sl av ++ List.replicate (nL - (lg_sl av).length) Slot.unset).toArray = ls at hl ⊢
  exact body p e s m below meth c A ls ⟨B.exec, B.bytes, hml, findClass_of_methodNamed B.named, fun w h => atoms_spec (ws := Ts) B.pre w (by rw [hw]; exact List.mem_cons_of_mem _ h), B.returns, B.notSynchronized⟩ hK hA ⟨hP, hD, va_S.rf⟩ hl
section
variable {p : Program} {l : Launch} {e : Env} {R : Room} {s : State} {m : MethodId} {args : Array Value} {below : List Frame} {meth : Method} {c : Code} {H : Heap} {locs : List Loc} {cc : ByteArray} {pc : Nat} {ls : Array Slot} {D : va_G} {A : Nat → Prop} {ad : Nat → Nat} {cy : ClassId} {σ : MS}
theorem rm_iret {v : Int32} (hx : p.tables.exec = Jvm.exec) (hb : c.code = cc) (hr : meth.sig.returnType = some .int) (hlocks : meth.locks = false) (hK : va_K D vwCl [(cy, .int)] s) (hB : mB D ad cy A s.heap σ H locs) (hdg : decode cc pc = .ok (.ireturn, 1)) : W p l e R s m args below meth c H locs 0 0 (MQ below (mQi D ad cy A v σ) args s 0 0 A) (F0 m pc ls [.int v]) :=
  W.iret (v := v) hx hb hr (fun t ht hW => ⟨⟨v, σ, rfl, rfl, rfl, by rw [ht]; exact hB.1, va_K.moved hW.alike hK, hB.2.1⟩, hB.2.2.F ht⟩) hB.2.2.2.2 hdg hlocks
theorem rm_zret {v : Int32} (hx : p.tables.exec = Jvm.exec) (hb : c.code = cc) (hr : meth.sig.returnType = some .boolean) (hlocks : meth.locks = false) (hn : narrow .boolean (.int v) = .int v) (hK : va_K D vwCl [(cy, .int)] s) (hB : mB D ad cy A s.heap σ H locs) (hdg : decode cc pc = .ok (.ireturn, 1)) : W p l e R s m args below meth c H locs 0 0 (MQ below (mQi D ad cy A v σ) args s 0 0 A) (F0 m pc ls [.int v]) :=
  W.zret (v := v) hx hb hr hn (fun t ht hW => ⟨⟨v, σ, rfl, rfl, rfl, by rw [ht]; exact hB.1, va_K.moved hW.alike hK, hB.2.1⟩, hB.2.2.F ht⟩) hB.2.2.2.2 hdg hlocks
theorem rm_lret {v : Int64} (hx : p.tables.exec = Jvm.exec) (hb : c.code = cc) (hr : meth.sig.returnType = some .long) (hlocks : meth.locks = false) (hK : va_K D vwCl [(cy, .int)] s) (hB : mB D ad cy A s.heap σ H locs) (hdg : decode cc pc = .ok (.lreturn, 1)) : W p l e R s m args below meth c H locs 0 0 (MQ below (mQl D ad cy A v σ) args s 0 0 A) (F0 m pc ls [.long v]) :=
  W.lret (v := v) hx hb hr (fun t ht hW => ⟨⟨v, σ, rfl, rfl, rfl, by rw [ht]; exact hB.1, va_K.moved hW.alike hK, hB.2.1⟩, hB.2.2.F ht⟩) hB.2.2.2.2 hdg hlocks
theorem rm_vret (hx : p.tables.exec = Jvm.exec) (hb : c.code = cc) (hr : meth.sig.returnType = none) (hlocks : meth.locks = false) (hK : va_K D vwCl [(cy, .int)] s) (hB : mB D ad cy A s.heap σ H locs) (hdg : decode cc pc = .ok (.return_, 1)) : W p l e R s m args below meth c H locs 0 0 (MQ below (mQv D ad cy A σ) args s 0 0 A) (F0 m pc ls []) :=
  W.vret hx hb hr (fun t ht hW => ⟨⟨σ, rfl, trivial, rfl, by rw [ht]; exact hB.1, va_K.moved hW.alike hK, hB.2.1⟩, hB.2.2.F ht⟩) hB.2.2.2.2 hdg hlocks
end
