noncomputable def ckp {α : Type} (P : Prop) (x : Option α) : Option α := @ite _ P (Classical.propDecidable P) x none
theorem ckp_e {α : Type} {P : Prop} {x : Option α} {y : α} (h : ckp P x = some y) : P ∧ x = some y := by
  unfold ckp at h
  by_cases hP : P
  · rw [if_pos hP] at h
    exact ⟨hP, h⟩
  · rw [if_neg hP] at h
    cases h
theorem ckp_t {α : Type} {P : Prop} {x : Option α} (h : P) : ckp P x = x := if_pos h
/-- all references of the pool are of cells that are there -/
def cwf (σ : CS) : Prop := ∀ a x q, σ.2.2.1 a x = some q → q < σ.2.2.2.2.2
theorem ce_ad {ad ad1 : Nat → Nat} {cy : CY} {q : Nat} {i : Nat → Int32} {j : Int64} {p : Nat → Option Nat} {k n : Nat} (h : ∀ a, a < 34 → ad1 a = ad a) (hp : ∀ x b, p x = some b → ad1 b = ad b) : ce ad1 cy q i j p k n = ce ad cy q i j p k n := by
  have hpx : ∀ x, Option.map ad1 (p x) = Option.map ad (p x) := fun x => by
    cases hx : p x with
    | none => rfl
    | some b => simp [hp x b hx]
  by_cases hq : q < 34
  · rcases (show q = 0 ∨ q = 1 ∨ q = 2 ∨ q = 3 ∨ q = 4 ∨ q = 5 ∨ q = 6 ∨ q = 7 ∨ q = 8 ∨ q = 9 ∨ q = 10 ∨ q = 11 ∨ q = 12 ∨ q = 13 ∨ q = 14 ∨ q = 15 ∨ q = 16 ∨ q = 17 ∨ q = 18 ∨ q = 19 ∨ q = 20 ∨ q = 21 ∨ q = 22 ∨ q = 23 ∨ q = 24 ∨ q = 25 ∨ q = 26 ∨ q = 27 ∨ q = 28 ∨ q = 29 ∨ q = 30 ∨ q = 31 ∨ q = 32 ∨ q = 33 by omega) with rfl | rfl | rfl | rfl | rfl | rfl | rfl | rfl | rfl | rfl | rfl | rfl | rfl | rfl | rfl | rfl | rfl | rfl | rfl | rfl | rfl | rfl | rfl | rfl | rfl | rfl | rfl | rfl | rfl | rfl | rfl | rfl | rfl | rfl
    · simp only [ce, if_pos (show (0 : Nat) < 34 by decide), cfx, cf_0, h 1 (by decide), h 4 (by decide), h 5 (by decide), h 18 (by decide), h 31 (by decide)]
    · simp only [ce, if_pos (show (1 : Nat) < 34 by decide), cfx, cf_1, h 2 (by decide), h 3 (by decide)]
    · rfl
    · rfl
    · rfl
    · simp only [ce, if_pos (show (5 : Nat) < 34 by decide), cfx, cf_5, h 6 (by decide), h 7 (by decide), h 8 (by decide), h 9 (by decide), h 10 (by decide), h 11 (by decide), h 12 (by decide), h 16 (by decide)]
    · simp only [ce, if_pos (show (6 : Nat) < 34 by decide), cfx, hpx]
    · simp only [ce, if_pos (show (7 : Nat) < 34 by decide), cfx, hpx]
    · rfl
    · rfl
    · rfl
    · rfl
    · simp only [ce, if_pos (show (12 : Nat) < 34 by decide), cfx, cf_12, h 13 (by decide), h 14 (by decide), h 15 (by decide)]
    · rfl
    · rfl
    · rfl
    · simp only [ce, if_pos (show (16 : Nat) < 34 by decide), cfx, cf_16, h 17 (by decide)]
    · rfl
    · simp only [ce, if_pos (show (18 : Nat) < 34 by decide), cfx, cf_18, h 19 (by decide), h 20 (by decide), h 21 (by decide), h 22 (by decide), h 23 (by decide), h 24 (by decide), h 25 (by decide), h 29 (by decide)]
    · simp only [ce, if_pos (show (19 : Nat) < 34 by decide), cfx, hpx]
    · simp only [ce, if_pos (show (20 : Nat) < 34 by decide), cfx, hpx]
    · rfl
    · rfl
    · rfl
    · rfl
    · simp only [ce, if_pos (show (25 : Nat) < 34 by decide), cfx, cf_25, h 26 (by decide), h 27 (by decide), h 28 (by decide)]
    · rfl
    · rfl
    · rfl
    · simp only [ce, if_pos (show (29 : Nat) < 34 by decide), cfx, cf_29, h 30 (by decide)]
    · rfl
    · simp only [ce, if_pos (show (31 : Nat) < 34 by decide), cfx, cf_31, h 5 (by decide), h 32 (by decide), h 33 (by decide), hpx]
    · rfl
    · rfl
  · simp only [ce, if_neg hq, cf_L, hpx]
theorem cw_push {ad : Nat → Nat} {cy : CY} {σ : CS} (h34 : 34 ≤ σ.2.2.2.2.2) (hwf : cwf σ) (q k n : Nat) (i : Nat → Int32) : cw (va_up ad σ.2.2.2.2.2 q) cy (cnw σ k n i (fun _ => none)) = cw ad cy σ ++ [(q, ce (va_up ad σ.2.2.2.2.2 q) cy σ.2.2.2.2.2 i (σ.2.1 σ.2.2.2.2.2) (fun _ => none) k n)] := by
  have hn : (cnw σ k n i (fun _ => none)).2.2.2.2.2 = σ.2.2.2.2.2 + 1 := rfl
  unfold cw
  rw [hn, List.range_succ, List.map_append, List.map_cons, List.map_nil]
  congr 1
  · apply List.map_congr_left
    intro j hj
    have hlt : j < σ.2.2.2.2.2 := List.mem_range.mp hj
    have hne : j ≠ σ.2.2.2.2.2 := Nat.ne_of_lt hlt
    have e1 : cel (va_up ad σ.2.2.2.2.2 q) cy (cnw σ k n i (fun _ => none)) j = ce (va_up ad σ.2.2.2.2.2 q) cy j (σ.1 j) (σ.2.1 j) (σ.2.2.1 j) (σ.2.2.2.1 j) (σ.2.2.2.2.1 j) := by
      simp only [cel, cnw, va_up_ne _ _ hne]
    rw [e1, va_up_ne _ _ hne, ce_ad (ad := ad) (fun a ha => va_up_ne _ _ (by omega)) (fun x b hb => va_up_ne _ _ (Nat.ne_of_lt (hwf j x b hb)))]
    rfl
  · simp only [cel, cnw, va_up_self]
theorem ce_P {ad : Nat → Nat} {cy : CY} {q : Nat} {i : Nat → Int32} {j : Int64} {p : Nat → Option Nat} {n : Nat} (h : 34 ≤ q) : ce ad cy q i j p 3 n = .inr (3, cf_P i) := by simp only [ce, if_neg (Nat.not_lt.mpr h), if_true]
theorem ce_L {ad : Nat → Nat} {cy : CY} {q : Nat} {i : Nat → Int32} {j : Int64} {p : Nat → Option Nat} {n : Nat} (h : 34 ≤ q) : ce ad cy q i j p 1 n = .inr (1, cf_L ad i p) := by
  simp only [ce, if_neg (Nat.not_lt.mpr h)]
  rfl
theorem ce_A {ad : Nat → Nat} {cy : CY} {q : Nat} {i : Nat → Int32} {j : Int64} {p : Nat → Option Nat} {n : Nat} (h : 34 ≤ q) : ce ad cy q i j p 9 n = .inl (cy.1, n, .inl i) := by
  simp only [ce, if_neg (Nat.not_lt.mpr h)]
  rfl
def cQa (D : va_G) (ad : Nat → Nat) (cy : CY) (A : Nat → Prop) (rv : (Nat → Nat) → Option Value) (n0 : Nat) (σ0 : CS) : Array Value → State → Outcome → State → Prop := fun _ st oc t => (∃ ad1 : Nat → Nat, (∀ j, j < n0 → ad1 j = ad j) ∧ oc = .returned (rv ad1) ∧ 34 ≤ σ0.2.2.2.2.2 ∧ va_P D vwCl (cw ad1 cy σ0) t.heap ∧ va_D A (cw ad1 cy σ0)) ∧ va_F A st t
def cMa (l : Launch) (y : MethodName) (ws : List Cond) (rm : Room) (D : va_G) (ad : Nat → Nat) (cy : CY) (z : CZ) (av : List Value) (σ : CS) (rv : (Nat → Nat) → Option Value) (σ0 : CS) (mc ms : Nat) : Prop := ∀ sz : Nat, Met l y ws rm (va_Pc av (cU D ad cy z σ sz)) (cQa D ad cy (va_A (cw ad cy σ) sz) rv σ.2.2.2.2.2 σ0) mc ms (va_A (cw ad cy σ) sz)
section
variable {p : Program} {l : Launch} {e : Env} {R : Room} {s : State} {m : MethodId} {args : Array Value} {below : List Frame} {meth : Method} {c : Code} {H : Heap} {locs : List Loc} {cells slots : Nat} {Q : State → Prop}
variable {cc : ByteArray} {pc : Nat} {ls : Array Slot} {rest : List Value} {D : va_G} {A : Nat → Prop} {ad : Nat → Nat} {cy : CY} {z : CZ} {σ σ0 : CS} {Ts : List Cond} {index : Nat} {own : String}
theorem rc_newP (hx : p.tables.exec = Jvm.exec) (hb : c.code = cc) (hts : ∀ w ∈ Ts, w.before args s = true) (hin : ∀ w ∈ u_ws RX3 TX3 5, w ∈ Ts) (ty : Nat → FieldType) (hty : ∀ k, k < 5 → parseFieldDescriptor (TX3 k).2.2.1 = some (ty k)) (hown : s.vm.findClass own = some m.cls) (hcl : (Cond.classLink own index RX3).before args s = true) (hinst : (Cond.instantiable RX3 5).before args s = true) (hini : (Cond.initialized RX3).before args s = true) (hV : cV D cy z A s) (hB : cB D ad cy A s.heap σ H locs) (hwf : cwf σ) (hcells : cells + 1 ≤ R.cells) (hslots : slots + 5 ≤ R.slots) (hdg : decode cc pc = .ok (.new index, 3)) (kk : ∀ ad1 : Nat → Nat, (∀ j, j < σ.2.2.2.2.2 → ad1 j = ad j) → ∀ q : Nat, q = σ.2.2.2.2.2 → ∀ σ1 : CS, σ1 = cnw σ 3 0 (fun _ => 0) (fun _ => none) → ∀ H1 : Heap, cB D ad1 cy A s.heap σ1 H1 locs → W p l e R s m args below meth c H1 locs (cells + 1) (slots + 5) Q (F0 m (pc + 3) ls (.ref (ad1 q) :: rest))) (hfs : ∀ j, j < 5 → defaultValue (ty j) = vp_V [.int 0, .int 0, .int 0, .int 0, .int 0] j := by first | exact dfl_3) : W p l e R s m args below meth c H locs cells slots Q (F0 m pc ls (rest)) := by
  refine va_new (D := D) (ci := 3) (C := RX3) (T := TX3) (N := 5) hx hb hts hin ty hty hown hcl hinst hini hV.1 hB.2.1 hB.2.2.1 hB.2.2.2 hV.2.1 rfl hfs hcells hslots hdg (fun q H1 hP hD hS => ?_)
  have e := cw_push (ad := ad) (cy := cy) hB.1 hwf q 3 0 (fun _ => 0)
  rw [ce_P hB.1] at e
  have := kk (va_up ad σ.2.2.2.2.2 q) (fun j h => va_up_ne _ _ (Nat.ne_of_lt h)) _ rfl _ rfl H1 ⟨Nat.le_trans hB.1 (Nat.le_succ _), by rw [e]; exact hP, by rw [e]; exact hD, hS⟩
  rw [va_up_self] at this
  exact this
theorem rc_newL (hx : p.tables.exec = Jvm.exec) (hb : c.code = cc) (hts : ∀ w ∈ Ts, w.before args s = true) (hin : ∀ w ∈ u_ws RX1 TX1 5, w ∈ Ts) (ty : Nat → FieldType) (hty : ∀ k, k < 5 → parseFieldDescriptor (TX1 k).2.2.1 = some (ty k)) (hown : s.vm.findClass own = some m.cls) (hcl : (Cond.classLink own index RX1).before args s = true) (hinst : (Cond.instantiable RX1 5).before args s = true) (hini : (Cond.initialized RX1).before args s = true) (hV : cV D cy z A s) (hB : cB D ad cy A s.heap σ H locs) (hwf : cwf σ) (hcells : cells + 1 ≤ R.cells) (hslots : slots + 5 ≤ R.slots) (hdg : decode cc pc = .ok (.new index, 3)) (kk : ∀ ad1 : Nat → Nat, (∀ j, j < σ.2.2.2.2.2 → ad1 j = ad j) → ∀ q : Nat, q = σ.2.2.2.2.2 → ∀ σ1 : CS, σ1 = cnw σ 1 0 (fun _ => 0) (fun _ => none) → ∀ H1 : Heap, cB D ad1 cy A s.heap σ1 H1 locs → W p l e R s m args below meth c H1 locs (cells + 1) (slots + 5) Q (F0 m (pc + 3) ls (.ref (ad1 q) :: rest))) (hfs : ∀ j, j < 5 → defaultValue (ty j) = vp_V [.int 0, .int 0, .int 0, .null, .null] j := by first | exact dfl_1) : W p l e R s m args below meth c H locs cells slots Q (F0 m pc ls (rest)) := by
  refine va_new (D := D) (ci := 1) (C := RX1) (T := TX1) (N := 5) hx hb hts hin ty hty hown hcl hinst hini hV.1 hB.2.1 hB.2.2.1 hB.2.2.2 hV.2.1 rfl hfs hcells hslots hdg (fun q H1 hP hD hS => ?_)
  have e := cw_push (ad := ad) (cy := cy) hB.1 hwf q 1 0 (fun _ => 0)
  rw [ce_L hB.1] at e
  have := kk (va_up ad σ.2.2.2.2.2 q) (fun j h => va_up_ne _ _ (Nat.ne_of_lt h)) _ rfl _ rfl H1 ⟨Nat.le_trans hB.1 (Nat.le_succ _), by rw [e]; exact hP, by rw [e]; exact hD, hS⟩
  rw [va_up_self] at this
  exact this
theorem rc_newA (hx : p.tables.exec = Jvm.exec) (hb : c.code = cc) (harr : (Cond.arrayClass .int).before args s = true) (hV : cV D cy z A s) (hB : cB D ad cy A s.heap σ H locs) (hwf : cwf σ) {n : Int32} (hn : ¬ n < 0) {N : Nat} (hN : n.toNatClampNeg = N) (hbytes : N * componentBytes .int ≤ 536870912) (hcells : cells + 1 ≤ R.cells) (hslots : slots + N ≤ R.slots) (hdg : decode cc pc = .ok (.newarray .int, 2)) (kk : ∀ ad1 : Nat → Nat, (∀ j, j < σ.2.2.2.2.2 → ad1 j = ad j) → ∀ q : Nat, q = σ.2.2.2.2.2 → ∀ σ1 : CS, σ1 = cnw σ 9 N (fun _ => 0) (fun _ => none) → ∀ H1 : Heap, cB D ad1 cy A s.heap σ1 H1 locs → W p l e R s m args below meth c H1 locs (cells + 1) (slots + N) Q (F0 m (pc + 2) ls (.ref (ad1 q) :: rest))) : W p l e R s m args below meth c H locs cells slots Q (F0 m pc ls (.int n :: rest)) := by
  refine va_newa (a0 := (N, .inl (fun _ => 0))) (atype := .int) hx hb harr rfl hV.1 hB.2.1 hB.2.2.1 hB.2.2.2 hV.2.1 (fun _ => rfl) hn hN hbytes hcells hslots hdg (fun q cA H1 hK1 hP hD hS => ?_)
  have e1 : s.vm.findClass ("[" ++ FieldType.int.toString) = some cy.1 := (hV.1.2 0 _ rfl).2
  have e2 : s.vm.findClass ("[" ++ FieldType.int.toString) = some cA := (hK1.2 3 _ rfl).2
  obtain rfl : cy.1 = cA := Option.some.inj (e1.symm.trans e2)
  have e := cw_push (ad := ad) (cy := cy) hB.1 hwf q 9 N (fun _ => 0)
  rw [ce_A hB.1] at e
  have := kk (va_up ad σ.2.2.2.2.2 q) (fun j h => va_up_ne _ _ (Nat.ne_of_lt h)) _ rfl _ rfl H1 ⟨Nat.le_trans hB.1 (Nat.le_succ _), by rw [e]; exact hP, by rw [e]; exact hD, hS⟩
  rw [va_up_self] at this
  exact this
theorem rc_putFi {C : String} {T : u_T} {N ci : Nat} {fs : List Value} (hx : p.tables.exec = Jvm.exec) (hb : c.code = cc) (hts : ∀ w ∈ Ts, w.before args s = true) (hin : ∀ w ∈ u_ws C T N, w ∈ Ts) (hown : s.vm.findClass own = some m.cls) (hV : cV D cy z A s) (hB : cB D ad cy A s.heap σ H locs) (a : Nat) (ha : a < σ.2.2.2.2.2) (hcel : cel ad cy σ a = .inr (ci, fs)) (hc : vwCl[ci]? = some (C, T, N)) (k : Nat) (hk : k < N) (hlink : Cond.fieldLink own index (T k).1 (T k).2.1 (T k).2.2.1 ∈ Ts) {v : Int32} {ty : FieldType} (ty0 : Nat → FieldType) (hty : ∀ k, k < N → parseFieldDescriptor (T k).2.2.1 = some (ty0 k)) (hnm : ∀ a, a < N → ∀ b, b < N → a ≠ b → (T a).2.1 ≠ (T b).2.1) (hset : cel ad cy (cp σ a k v) a = .inr (ci, fs.set k (.int v))) (hfin : (T k).2.2.2 = true) (hin2 : meth.name = "<init>") (hdecl : (T k).1 = own) (hd : parseFieldDescriptor (T k).2.2.1 = some ty) (hn : narrow ty (.int v) = .int v) (hfit : fits ty (.int v) = true) (hl : k < fs.length) (hdg : decode cc pc = .ok (.putfield index, 3)) (kk : ∀ σ1 : CS, σ1 = cp σ a k v → ∀ (H1 : Heap) (locs1 : List Loc), cB D ad cy A s.heap σ1 H1 locs1 → W p l e R s m args below meth c H1 locs1 cells slots Q (F0 m (pc + 3) ls (rest))) : W p l e R s m args below meth c H locs cells slots Q (F0 m pc ls (.int v :: .ref (ad a) :: rest)) := by
  have hw : (cw ad cy σ).set a (ad a, .inr (ci, fs.set k (.int v))) = cw ad cy (cp σ a k v) := cw_set rfl ha hset cel_cp
  exact va_putF (D := D) (ci := ci) (C := C) (T := T) (N := N) hx hb hts hin ty0 hty hnm hown hV.1 hB.2.1 hB.2.2.1 hB.2.2.2 a ((cw_at ha).trans (by rw [hcel])) hc k hk (hts _ hlink) (fun _ h9 => h9) hfin hin2 hdecl hd hn hfit hl hdg (fun H1 locs1 hP hD hS => kk _ rfl H1 locs1 ⟨hB.1, by rw [hw] at hP; exact hP, by rw [hw] at hD; exact hD, hS⟩)
theorem rc_putFr {C : String} {T : u_T} {N ci : Nat} {fs : List Value} (hx : p.tables.exec = Jvm.exec) (hb : c.code = cc) (hts : ∀ w ∈ Ts, w.before args s = true) (hin : ∀ w ∈ u_ws C T N, w ∈ Ts) (hown : s.vm.findClass own = some m.cls) (hV : cV D cy z A s) (hB : cB D ad cy A s.heap σ H locs) (a : Nat) (ha : a < σ.2.2.2.2.2) (hcel : cel ad cy σ a = .inr (ci, fs)) (hc : vwCl[ci]? = some (C, T, N)) (k : Nat) (hk : k < N) (hlink : Cond.fieldLink own index (T k).1 (T k).2.1 (T k).2.2.1 ∈ Ts) {v : Option Nat} {ty : FieldType} (ty0 : Nat → FieldType) (hty : ∀ k, k < N → parseFieldDescriptor (T k).2.2.1 = some (ty0 k)) (hnm : ∀ a, a < N → ∀ b, b < N → a ≠ b → (T a).2.1 ≠ (T b).2.1) (hset : cel ad cy (cpp σ a k v) a = .inr (ci, fs.set k (va_rf (Option.map ad v)))) (hfin : (T k).2.2.2 = true) (hin2 : meth.name = "<init>") (hdecl : (T k).1 = own) (hd : parseFieldDescriptor (T k).2.2.1 = some ty) (hn : narrow ty (va_rf (Option.map ad v)) = va_rf (Option.map ad v)) (hfit : fits ty (va_rf (Option.map ad v)) = true) (hl : k < fs.length) (hdg : decode cc pc = .ok (.putfield index, 3)) (kk : ∀ σ1 : CS, σ1 = cpp σ a k v → ∀ (H1 : Heap) (locs1 : List Loc), cB D ad cy A s.heap σ1 H1 locs1 → W p l e R s m args below meth c H1 locs1 cells slots Q (F0 m (pc + 3) ls (rest))) : W p l e R s m args below meth c H locs cells slots Q (F0 m pc ls (va_rf (Option.map ad v) :: .ref (ad a) :: rest)) := by
  have hw : (cw ad cy σ).set a (ad a, .inr (ci, fs.set k (va_rf (Option.map ad v)))) = cw ad cy (cpp σ a k v) := cw_set rfl ha hset cel_cpp
  exact va_putF (D := D) (ci := ci) (C := C) (T := T) (N := N) hx hb hts hin ty0 hty hnm hown hV.1 hB.2.1 hB.2.2.1 hB.2.2.2 a ((cw_at ha).trans (by rw [hcel])) hc k hk (hts _ hlink) (fun _ h9 => h9) hfin hin2 hdecl hd hn hfit hl hdg (fun H1 locs1 hP hD hS => kk _ rfl H1 locs1 ⟨hB.1, by rw [hw] at hP; exact hP, by rw [hw] at hD; exact hD, hS⟩)
theorem rc_afterA {rv : (Nat → Nat) → Option Value} {av : Array Value} {st0 : List Value} {A1 : Nat → Prop} {free : Addr → Prop} {mc ms n0 : Nat} (hr : va_Run p l e R s m args below meth c H locs cells slots mc ms (F0 m pc ls st0) rest (cQa D ad cy A1 rv n0 σ0 av) free) (hS : va_S A s.heap H locs) (hA1 : ∀ q, A1 q → A q) (hf : ∀ q, free q → A q) (kk : ∀ ad1 : Nat → Nat, (∀ j, j < n0 → ad1 j = ad j) → ∀ (H1 : Heap) (locs1 : List Loc), cB D ad1 cy A s.heap σ0 H1 locs1 → W p l e R s m args below meth c H1 locs1 (cells + mc) (slots + ms) Q (F0 m (pc + 3) ls ((rv ad1).toList ++ rest))) : W p l e R s m args below meth c H locs cells slots Q (F0 m pc ls st0) := by
  intro T hT X
  obtain ⟨v, st₀, t, T', L, h0, X', hL, e1, e2, ⟨⟨ad1, had, hv, hn, hp, hd⟩, hz, hk⟩, st⟩ := hr T hT X
  cases hv
  rw [h0] at hz hk
  obtain ⟨t2, a1, b1⟩ := kk ad1 had T'.heap (locs ++ L) ⟨hn, by rw [e1]; exact hp, hd.weaken (fun _ q _ h => hA1 q.1 h), Nat.le_trans hS.1 (by rw [e1]; exact hz), fun q h1 h2 => by rw [e1, hk q (Nat.lt_of_lt_of_le h1 hS.1) (fun z => h2 (hA1 q z))]; exact hS.2.1 q h1 h2, fun q hq => by
      rcases List.mem_append.mp hq with h | h
      · exact hS.2.2 q h
      · exact hf _ (hL q h)⟩ T' rfl X'
  exact ⟨t2, st t2 a1, b1⟩
theorem rc_callVA {y : MethodName} {wsy : List Cond} {rm : Room} {bytes : ByteArray} {maxL nL nA mc ms : Nat} {ret : Option FieldType} {av st : List Value} {rv : (Nat → Nat) → Option Value} (hx : p.tables.exec = Jvm.exec) (hb : c.code = cc) (hml : c.maxLocals = nL) (hown : s.vm.findClass own = some m.cls) (hts : ∀ w ∈ Ts, w.before args s = true) (hls : ls.size = nL) (hV : cV D cy z A s) (hB : cB D ad cy A s.heap σ H locs) (a : Nat) (ha : a < σ.2.2.2.2.2) {ci : Nat} {r : vw_C} {fs : List Value} (hcel : cel ad cy σ a = .inr (ci, fs)) (hr : vwCl[ci]? = some r) (hM : cMa l y wsy rm D ad cy z (.ref (ad a) :: av) σ rv σ0 mc ms) (cw0 : CallW R s args own r.1 index y bytes maxL ret wsy rm mc ms nA) (hn : av.length = nA) (hst : st = av.reverse ++ .ref (ad a) :: rest) (hroom : 2 * (F0 m pc ls st).monitorRoom + (rest.map fun v => v.category).sum ≤ 8) (hdg : decode cc pc = .ok (.invokevirtual index, 3)) (hc : cells + mc ≤ R.cells) (hs : slots + ms ≤ R.slots) (kk : ∀ ad1 : Nat → Nat, (∀ j, j < σ.2.2.2.2.2 → ad1 j = ad j) → ∀ (H1 : Heap) (locs1 : List Loc), cB D ad1 cy A s.heap σ0 H1 locs1 → W p l e R s m args below meth c H1 locs1 (cells + mc) (slots + ms) Q (F0 m (pc + 3) ls ((rv ad1).toList ++ rest))) : W p l e R s m args below meth c H locs cells slots Q (F0 m pc ls (st)) :=
  rc_afterA (va_runV (As := av) (rest := rest) ⟨hx, hb, hml, hown, hts⟩ (hM H.size) cw0 ⟨cblind, va_recv hV.1 hB.2.1 (ci := ci) (q0 := a) hr ((cw_at ha).trans (by rw [hcel])), cbegin hV hB⟩ rfl hn hls hst hroom hdg ⟨hc, hs⟩) hB.2.2.2 (cfree hV hB) (cfree hV hB) kk
theorem rc_callSA {y : MethodName} {wsy : List Cond} {rm : Room} {bytes : ByteArray} {maxL nL nA mc ms : Nat} {ret : Option FieldType} {av st : List Value} {rv : (Nat → Nat) → Option Value} (hx : p.tables.exec = Jvm.exec) (hb : c.code = cc) (hml : c.maxLocals = nL) (hown : s.vm.findClass own = some m.cls) (hts : ∀ w ∈ Ts, w.before args s = true) (hls : ls.size = nL) (hV : cV D cy z A s) (hB : cB D ad cy A s.heap σ H locs) (hM : cMa l y wsy rm D ad cy z av σ rv σ0 mc ms) (cw0 : CallB R s args own index y bytes maxL ret wsy rm mc ms nA ∧ (Cond.static y).before args s = true) (hn : av.length = nA) (hst : st = av.reverse ++ rest) (hroom : 2 * (F0 m pc ls st).monitorRoom + (rest.map fun v => v.category).sum ≤ 8) (hdg : decode cc pc = .ok (.invokestatic index, 3)) (hc : cells + mc ≤ R.cells) (hs : slots + ms ≤ R.slots) (kk : ∀ ad1 : Nat → Nat, (∀ j, j < σ.2.2.2.2.2 → ad1 j = ad j) → ∀ (H1 : Heap) (locs1 : List Loc), cB D ad1 cy A s.heap σ0 H1 locs1 → W p l e R s m args below meth c H1 locs1 (cells + mc) (slots + ms) Q (F0 m (pc + 3) ls ((rv ad1).toList ++ rest))) : W p l e R s m args below meth c H locs cells slots Q (F0 m pc ls (st)) :=
  rc_afterA (va_runS (As := av) (rest := rest) ⟨hx, hb, hml, hown, hts⟩ (hM H.size) cw0 ⟨cblind, cbegin hV hB⟩ rfl hn hls hst hroom hdg ⟨hc, hs⟩) hB.2.2.2 (cfree hV hB) (cfree hV hB) kk
theorem rc_callIA {y : MethodName} {wsy : List Cond} {rm : Room} {bytes : ByteArray} {maxL nL nA mc ms : Nat} {av st : List Value} {rv : (Nat → Nat) → Option Value} (hx : p.tables.exec = Jvm.exec) (hb : c.code = cc) (hml : c.maxLocals = nL) (hown : s.vm.findClass own = some m.cls) (hts : ∀ w ∈ Ts, w.before args s = true) (hls : ls.size = nL) (hV : cV D cy z A s) (hB : cB D ad cy A s.heap σ H locs) (a : Nat) (hM : cMa l y wsy rm D ad cy z (.ref (ad a) :: av) σ rv σ0 mc ms) (cw0 : CallB R s args own index y bytes maxL none wsy rm mc ms nA ∧ y.name = "<init>" ∧ (Cond.instanceMethod y).before args s = true) (hn : av.length = nA) (hst : st = av.reverse ++ .ref (ad a) :: rest) (hroom : 2 * (F0 m pc ls st).monitorRoom + (rest.map fun v => v.category).sum ≤ 8) (hdg : decode cc pc = .ok (.invokespecial index, 3)) (hc : cells + mc ≤ R.cells) (hs : slots + ms ≤ R.slots) (kk : ∀ ad1 : Nat → Nat, (∀ j, j < σ.2.2.2.2.2 → ad1 j = ad j) → ∀ (H1 : Heap) (locs1 : List Loc), cB D ad1 cy A s.heap σ0 H1 locs1 → W p l e R s m args below meth c H1 locs1 (cells + mc) (slots + ms) Q (F0 m (pc + 3) ls ((rv ad1).toList ++ rest))) : W p l e R s m args below meth c H locs cells slots Q (F0 m pc ls (st)) :=
  rc_afterA (va_runI (As := av) (rest := rest) ⟨hx, hb, hml, hown, hts⟩ (hM H.size) cw0 ⟨cblind, cbegin hV hB⟩ rfl hn hls hst hroom hdg ⟨hc, hs⟩) hB.2.2.2 (cfree hV hB) (cfree hV hB) kk
end
theorem rc_metA {l : Launch} {y : MethodName} {Ts ws' : List Cond} {rm : Room} {D : va_G} {ad : Nat → Nat} {cy : CY} {z : CZ} {av : List Value} {σ σ0 : CS} {rv : (Nat → Nat) → Option Value} {mc ms : Nat} {cc : ByteArray} {nL : Nat} {ret : Option FieldType} (hy : plainName y.cls = true) (hw : Ts = Cond.code y cc nL ret :: ws') (hn : (lg_sl av).length ≤ nL)
    (body : ∀ (p : Program) (e : Env) (s : State) (m : MethodId) (below : List Frame) (meth : Method) (c : Code) (A : Nat → Prop) (ls : Array Slot), cxB y.cls ws' cc nL ret p s m av.toArray meth c → meth.name = y.name → cV D cy z A s → cB D ad cy A s.heap σ s.heap [] → lv_has ls nL (lv_args 0 av) → W p l e rm s m av.toArray below meth c s.heap [] 0 0 (MQ below (cQa D ad cy A rv σ.2.2.2.2.2 σ0) av.toArray s mc ms A) (F0 m 0 ls [])) : cMa l y Ts rm D ad cy z av σ rv σ0 mc ms := by
  intro sz
  refine Met.ofW (cc := cc) (maxL := nL) (ret := ret) hy hw ?_
  intro p e s m args below meth c s₁ B hml hv
  obtain ⟨rfl, hsz, hn4, hP, hK, hD0, hE⟩ := hv
  subst hsz
  have hD := hD0.self (sz := s.heap.size)
  generalize hAe : va_A (cw ad cy σ) s.heap.size = A at hD hE ⊢
  have hA : ∀ q : Nat, s.heap.size ≤ q → A q := fun q h => by rw [← hAe]; exact Or.inr h
  have hl := lv_entry av (n := nL) hn
  rw [lg_entry_eq]
  generalize (lg_sl av ++ List.replicate (nL - (lg_sl av).length) Slot.unset).toArray = ls at hl ⊢
  exact body p e s m below meth c A ls ⟨B.exec, B.bytes, hml, findClass_of_methodNamed B.named, fun w h => atoms_spec (ws := Ts) B.pre w (by rw [hw]; exact List.mem_cons_of_mem _ h), B.returns, B.notSynchronized⟩ (name_of_methodNamed B.named B.method).1 ⟨hK, hA, hE⟩ ⟨hn4, hP, hD, va_S.rf⟩ hl
section
variable {p : Program} {l : Launch} {e : Env} {R : Room} {s : State} {m : MethodId} {args : Array Value} {below : List Frame} {meth : Method} {c : Code} {H : Heap} {locs : List Loc} {cc : ByteArray} {pc : Nat} {ls : Array Slot} {D : va_G} {A : Nat → Prop} {ad ao : Nat → Nat} {n0 mc ms : Nat} {cy : CY} {σ : CS}
theorem rc_iretA {v : Int32} (hx : p.tables.exec = Jvm.exec) (hb : c.code = cc) (hr : meth.sig.returnType = some .int) (hlocks : meth.locks = false) (had : ∀ j, j < n0 → ad j = ao j) (hB : cB D ad cy A s.heap σ H locs) (hdg : decode cc pc = .ok (.ireturn, 1)) : W p l e R s m args below meth c H locs mc ms (MQ below (cQa D ao cy A (fun _ => some (.int v)) n0 σ) args s mc ms A) (F0 m pc ls [.int v]) :=
  W.iret (v := v) hx hb hr (fun t ht hW => ⟨⟨ad, had, rfl, hB.1, by rw [ht]; exact hB.2.1, hB.2.2.1⟩, hB.2.2.2.F ht⟩) hB.2.2.2.2.2 hdg hlocks
theorem rc_vretA (hx : p.tables.exec = Jvm.exec) (hb : c.code = cc) (hr : meth.sig.returnType = none) (hlocks : meth.locks = false) (had : ∀ j, j < n0 → ad j = ao j) (hB : cB D ad cy A s.heap σ H locs) (hdg : decode cc pc = .ok (.return_, 1)) : W p l e R s m args below meth c H locs mc ms (MQ below (cQa D ao cy A (fun _ => none) n0 σ) args s mc ms A) (F0 m pc ls []) :=
  W.vret hx hb hr (fun t ht hW => ⟨⟨ad, had, rfl, hB.1, by rw [ht]; exact hB.2.1, hB.2.2.1⟩, hB.2.2.2.F ht⟩) hB.2.2.2.2.2 hdg hlocks
theorem rc_aretA {o : Option Nat} {rt : FieldType} (hx : p.tables.exec = Jvm.exec) (hb : c.code = cc) (hr : meth.sig.returnType = some rt) (hlocks : meth.locks = false) (hrt : (∃ n, rt = .object n) ∨ ∃ t, rt = .array t) (had : ∀ j, j < n0 → ad j = ao j) (hB : cB D ad cy A s.heap σ H locs) (hdg : decode cc pc = .ok (.areturn, 1)) : W p l e R s m args below meth c H locs mc ms (MQ below (cQa D ao cy A (fun a => some (va_rf (Option.map a o))) n0 σ) args s mc ms A) (F0 m pc ls [va_rf (Option.map ad o)]) :=
  W.aret hx hb hr hrt (va_rf_cases _) (fun t ht hW => ⟨⟨ad, had, rfl, hB.1, by rw [ht]; exact hB.2.1, hB.2.2.1⟩, hB.2.2.2.F ht⟩) hB.2.2.2.2.2 hdg hlocks
end
