/-! plain rows on the functions' words -/
theorem sq_d {α β : Type} (x : α) (f : α → β) : sq x f = f x := rfl
theorem ck_t {α : Type} (x : Option α) : ck true x = x := rfl
theorem od_s {β : Type} (q : Nat) (f : Nat → Option β) : od (some q) f = f q := rfl
theorem oc_sE {β : Type} (q : Nat) (a : β) (f : Nat → β) : oc (some q) a f = f q := rfl
theorem oc_nE {β : Type} (a : β) (f : Nat → β) : oc none a f = a := rfl
theorem bd_s {α β γ : Type} (a : α) (b : β) (f : α → β → Option γ) : bd (some (a, b)) f = f a b := rfl
theorem dec_t {p : Prop} [Decidable p] (h : p) : decide p = true := decide_eq_true h
theorem ib_nI {i n : Nat} (h : i < n) (hn : n < 2 ^ 31) : ib (nI i) n = true := by
  simp only [ib, Bool.and_eq_true, Bool.not_eq_true', decide_eq_false_iff_not, decide_eq_true_eq]
  exact ⟨nI_pos (by omega), by rw [nI_clamp (by omega)]; exact h⟩
theorem ib_of {x : Int32} {n : Nat} (h : ib x n = true) : ∃ i : Nat, i < n ∧ x = nI i := by
  simp only [ib, Bool.and_eq_true, Bool.not_eq_true', decide_eq_false_iff_not, decide_eq_true_eq] at h
  obtain ⟨j, hj, rfl⟩ := nI_of h.1
  rw [nI_clamp hj] at h
  exact ⟨j, h.2, rfl⟩
/-! the reference's state -/
theorem mp_2 (σ : MS) (a k : Nat) (v : Int32) : (mp σ a k v).2 = σ.2 := rfl
theorem mq_1 (σ : MS) (k : Nat) (v : Int64) : (mq σ k v).1 = σ.1 := rfl
theorem mp_1 (σ : MS) (a k : Nat) (v : Int32) (b j : Nat) : (mp σ a k v).1 b j = if b = a ∧ j = k then v else σ.1 b j := by
  by_cases h : b = a
  · subst h
    by_cases h2 : j = k <;> simp [mp, va_up, upd, h2]
  · simp [mp, va_up, h]
theorem mq_2 (σ : MS) (k : Nat) (v : Int64) (j : Nat) : (mq σ k v).2 j = if j = k then v else σ.2 j := rfl
theorem mp_ne (σ : MS) (a k : Nat) (v : Int32) {b : Nat} (h : b ≠ a) : (mp σ a k v).1 b = σ.1 b := by simp [mp, va_up, h]
theorem mp_row (σ : MS) (a k : Nat) (v : Int32) : (mp σ a k v).1 a = upd (σ.1 a) k v := by simp [mp, va_up]
theorem upd_eq (f : Nat → Int32) (k : Nat) (v : Int32) : upd f k v k = v := by simp [upd]
theorem upd_ne (f : Nat → Int32) {k j : Nat} (v : Int32) (h : j ≠ k) : upd f k v j = f j := by simp [upd, h]
/-- a whole row anew -/
def mpr (σ : MS) (a : Nat) (f : Nat → Int32) : MS := (va_up σ.1 a f, σ.2)
theorem mpr_mp (σ : MS) (a : Nat) (f : Nat → Int32) (k : Nat) (v : Int32) : mp (mpr σ a f) a k v = mpr σ a (upd f k v) := by
  unfold mp mpr
  refine Prod.ext ?_ rfl
  funext b
  by_cases h : b = a <;> simp [va_up, h]
theorem mp_mpr (σ : MS) (a k : Nat) (v : Int32) : mp σ a k v = mpr σ a (upd (σ.1 a) k v) := rfl
theorem mpr_self (σ : MS) (a : Nat) : mpr σ a (σ.1 a) = σ := by
  unfold mpr
  refine Prod.ext ?_ rfl
  funext b
  by_cases h : b = a
  · subst h; simp [va_up]
  · simp [va_up, h]
theorem mpr_row (σ : MS) (a : Nat) (f : Nat → Int32) : (mpr σ a f).1 a = f := by simp [mpr, va_up]
theorem mpr_ne (σ : MS) (a : Nat) (f : Nat → Int32) {b : Nat} (h : b ≠ a) : (mpr σ a f).1 b = σ.1 b := by simp [mpr, va_up, h]
theorem mpr_2 (σ : MS) (a : Nat) (f : Nat → Int32) : (mpr σ a f).2 = σ.2 := rfl
/-! the class's state -/
theorem cp_2 (σ : CS) (a k : Nat) (v : Int32) : (cp σ a k v).2 = σ.2 := rfl
theorem cp_1 (σ : CS) (a k : Nat) (v : Int32) (b j : Nat) : (cp σ a k v).1 b j = if b = a ∧ j = k then v else σ.1 b j := by
  by_cases h : b = a
  · subst h
    by_cases h2 : j = k <;> simp [cp, va_up, upd, h2]
  · simp [cp, va_up, h]
theorem cp_ne (σ : CS) (a k : Nat) (v : Int32) {b : Nat} (h : b ≠ a) : (cp σ a k v).1 b = σ.1 b := by simp [cp, va_up, h]
theorem cpr_row (σ : CS) (a : Nat) (f : Nat → Int32) : (cpr σ a f).1 a = f := by simp [cpr, va_up]
theorem cpr_ne (σ : CS) (a : Nat) (f : Nat → Int32) {b : Nat} (h : b ≠ a) : (cpr σ a f).1 b = σ.1 b := by simp [cpr, va_up, h]
theorem cpr_2 (σ : CS) (a : Nat) (f : Nat → Int32) : (cpr σ a f).2 = σ.2 := rfl
theorem cpr_cp (σ : CS) (a : Nat) (f : Nat → Int32) (k : Nat) (v : Int32) : cp (cpr σ a f) a k v = cpr σ a (upd f k v) := by
  unfold cp cpr
  refine Prod.ext ?_ rfl
  funext b
  by_cases h : b = a <;> simp [va_up, h]
theorem cp_cpr (σ : CS) (a k : Nat) (v : Int32) : cp σ a k v = cpr σ a (upd (σ.1 a) k v) := rfl
theorem cpr_self (σ : CS) (a : Nat) : cpr σ a (σ.1 a) = σ := by
  unfold cpr
  refine Prod.ext ?_ rfl
  funext b
  by_cases h : b = a
  · subst h; simp [va_up]
  · simp [va_up, h]
theorem cpj_1 (σ : CS) (a : Nat) (v : Int64) : (cpj σ a v).1 = σ.1 := rfl
theorem cpp_1 (σ : CS) (a k : Nat) (v : Option Nat) : (cpp σ a k v).1 = σ.1 := rfl
/-! numbers -/
theorem nI_sub1 (d : Nat) : nI (d + 1) - 1 = nI d := nI_pred d
theorem i32_sub_add (x : Int32) : x - 1 + 1 = x := by
  have := Int32.sub_add_cancel x 1
  exact this
theorem i_div {a b : Int32} (h : b ≠ -1) : (a / b).toInt = a.toInt.tdiv b.toInt := Int32.toInt_div_of_ne_right a b h
theorem nI_of_toInt {x : Int32} {n : Nat} (h : x.toInt = (n : Int)) : x = nI n := by
  have h2 : (n : Int) < 2147483648 := by rw [← h]; exact Int32.toInt_lt x
  exact Int32.toInt_inj.mp (by rw [h, nI_toInt (by omega)])
theorem nI_sub {a b : Nat} (h : b ≤ a) (ha : a < 2 ^ 31) : nI a - nI b = nI (a - b) := by
  have ea := nI_toInt (n := a) ha
  have eb := nI_toInt (n := b) (by omega)
  exact nI_of_toInt (by rw [i_sub (by rw [ea, eb]; omega) (by rw [ea, eb]; omega), ea, eb]; omega)
theorem nI_mul {a b : Nat} (h : a * b < 2 ^ 31) (ha : a < 2 ^ 31) (hb : b < 2 ^ 31) : nI a * nI b = nI (a * b) := (Int32.ofNat_mul a b).symm
theorem nI_div {a b : Nat} (ha : a < 2 ^ 31) (hb : b < 2 ^ 31) : nI a / nI b = nI (a / b) := by
  have ea := nI_toInt (n := a) ha
  have eb := nI_toInt (n := b) hb
  have hne : nI b ≠ -1 := fun h => by
    have := congrArg Int32.toInt h
    rw [eb] at this
    have e1 : (-1 : Int32).toInt = -1 := by decide
    omega
  refine nI_of_toInt ?_
  rw [i_div hne, ea, eb]
  exact (Int.ofNat_tdiv a b).symm
