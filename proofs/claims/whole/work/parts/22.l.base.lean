/-! THE CLAIM OUT OF ONE WALK OF THE LAW'S BODY. Your part is whole_start (and what it stands on); all else here is the same for every law, but numbers. -/
def R_law : String := "PlateRingsLaw"
def lw_P (b : Addr) (xs : List Int32) (args : Array Value) (s : State) : Prop := args = #[.ref b] ∧ s.IntsAt b xs ∧ xs.length ≤ 448 ∧ (Jvm.Cond.and given_1 narrow_1).before args s = true
def lw_Q (_ : Array Value) (s : State) (o : Outcome) (t : State) : Prop := o = .returned (some (.int 1)) ∧ Framed s o t [] 600000 7302249
def lw_Z (below : List Frame) (a : Array Value) (s : State) : State → Prop := fun t => ∃ o, t.status = .running ∧ Ended t below o ∧ lw_Q a s o t
/-- the law's own end, with 1 on the stack, nothing written that was there before, its room as the claim has it -/
theorem lw_ret {p : Program} {l : Launch} {e : Env} {s : State} {m : MethodId} {below : List Frame} {meth : Method} {c : Code} {b : Nat} (hx : p.tables.exec = Jvm.exec) (hb : c.code = code) (hr : meth.sig.returnType = ret) (hlocks : meth.locks = false) {pc : Nat} {H : Heap} {ls : Array Slot} (hdg : decode code pc = .ok (.ireturn, 1)) : W p l e room_1 s m #[Value.ref b] below meth c H [] 600000 7302249 (lw_Z below #[Value.ref b] s) (F0 m pc ls [.int 1]) := by
  intro T hT X
  obtain ⟨fs, hret, hrun, hended, hW, hframe⟩ := X.leave (v := some (.int 1)) (hlocks := hlocks) (fun h => by rw [hr] at h; cases h)
  have hmeth' : T.vm.method? m = some meth := X.method'
  refine ⟨T.setFrames fs, ?_, .returned (some (.int 1)), hrun, hended, rfl, ⟨_, rfl⟩, hW, hframe⟩
  jvm_step X.here [X.here.top, hx, hb, hdg, hmeth', hr, ret, narrow_b1]
  (try refine ⟨rfl, ?_⟩); (try refine ⟨rfl, ?_⟩)
  first | (intro acts; rw [hret _ acts rfl rfl rfl]) | rw [hret _ _ rfl rfl rfl]
  exact Steps.refl _
/-- what holds at the law's entry: the machine, the code, the tables' words (any of lw_tbl by 'hts w (by decide +kernel)'), the script of L ints xs at the cell b, what the Statement gives of the start (any of its parts by flat_of_before) -/
def lw_At (p : Program) (s : State) (m : MethodId) (meth : Method) (c : Code) (b L : Nat) (xs : Nat → Int32) : Prop :=
  p.tables.exec = Jvm.exec ∧ c.code = code ∧ meth.sig.returnType = ret ∧ c.maxLocals = 4 ∧ s.vm.findClass R_law = some m.cls ∧ (∀ w ∈ lw_tbl, w.before #[Value.ref b] s = true) ∧ va_X b L xs s s.heap ∧ b < s.heap.size ∧ meth.locks = false ∧ (Jvm.Cond.and given_1 narrow_1).before #[Value.ref b] s = true
def st_feed (n : Nat) (Rl : CS → MS → Prop) : Prop := ∀ (γ : CS) (μ : MS) (x1 : Int32) (x2 : Int64), Rl γ μ → ∃ (r : Int32) (γ1 : CS) (μ1 : MS), fc_X7_feed n γ x1 x2 = some (r, γ1) ∧ fm_feed n μ x1 x2 = some (r, μ1) ∧ Rl γ1 μ1
def st_plate (n : Nat) (Rl : CS → MS → Prop) : Prop := ∀ (γ : CS) (μ : MS), Rl γ μ → ∃ (r : Int32) (γ1 : CS) (μ1 : MS), fc_X7_plate n γ = some (r, γ1) ∧ fm_plate n μ = some (r, μ1) ∧ Rl γ1 μ1
def st_plateOf (n : Nat) (Rl : CS → MS → Prop) : Prop := ∀ (γ : CS) (μ : MS) (x1 : Int32) (x2 : Int32), Rl γ μ → ∃ (r : Int32) (γ1 : CS) (μ1 : MS), fc_X7_plateOf n γ x1 x2 = some (r, γ1) ∧ fm_plateOf n μ x1 x2 = some (r, μ1) ∧ Rl γ1 μ1
def st_loss (n : Nat) (Rl : CS → MS → Prop) : Prop := ∀ (γ : CS) (μ : MS) (x1 : Int32) (x2 : Int32) (x3 : Int32), Rl γ μ → ∃ (r : Int32) (γ1 : CS) (μ1 : MS), fc_X7_loss n γ x1 x2 x3 = some (r, γ1) ∧ fm_loss n μ x1 x2 x3 = some (r, μ1) ∧ Rl γ1 μ1
def st_lossOf (n : Nat) (Rl : CS → MS → Prop) : Prop := ∀ (γ : CS) (μ : MS) (x1 : Int32) (x2 : Int32), Rl γ μ → ∃ (r : Int32) (γ1 : CS) (μ1 : MS), fc_X7_lossOf n γ x1 x2 = some (r, γ1) ∧ fm_lossOf n μ x1 x2 = some (r, μ1) ∧ Rl γ1 μ1
def st_floor (n : Nat) (Rl : CS → MS → Prop) : Prop := ∀ (γ : CS) (μ : MS) (x1 : Int32) (x2 : Int32) (x3 : Int32), Rl γ μ → ∃ (r : Int32) (γ1 : CS) (μ1 : MS), fc_X7_floor n γ x1 x2 x3 = some (r, γ1) ∧ fm_floor n μ x1 x2 x3 = some (r, μ1) ∧ Rl γ1 μ1
def st_air (n : Nat) (Rl : CS → MS → Prop) : Prop := ∀ (γ : CS) (μ : MS) (x1 : Int32), Rl γ μ → (x1 = 0 ∨ x1 = 1) → ∃ (r : Int32) (γ1 : CS) (μ1 : MS), fc_X7_air n γ x1 = some (r, γ1) ∧ fm_air n μ x1 = some (r, μ1) ∧ Rl γ1 μ1
def st_toneAt (n : Nat) (Rl : CS → MS → Prop) : Prop := ∀ (γ : CS) (μ : MS) (x1 : Int32) (x2 : Int32), Rl γ μ → ∃ (r : Int32) (γ1 : CS) (μ1 : MS), fc_X7_toneAt n γ x1 x2 = some (r, γ1) ∧ fm_toneAt n μ x1 x2 = some (r, μ1) ∧ Rl γ1 μ1
def st_takes (n : Nat) (Rl : CS → MS → Prop) : Prop := ∀ (γ : CS) (μ : MS) (x1 : Int32) (x2 : Int32) (x3 : Int32) (x4 : Int32) (x5 : Int32), Rl γ μ → ∃ (r : Int32) (γ1 : CS) (μ1 : MS), fc_X7_takes n γ x1 x2 x3 x4 x5 = some (r, γ1) ∧ fm_takes n μ x1 x2 x3 x4 x5 = some (r, μ1) ∧ Rl γ1 μ1
def st_spin (n : Nat) (Rl : CS → MS → Prop) : Prop := ∀ (γ : CS) (μ : MS) (x1 : Int32) (x2 : Int32) (x3 : Int32), Rl γ μ → ∃ (r : Int32) (γ1 : CS) (μ1 : MS), fc_X7_spin n γ x1 x2 x3 = some (r, γ1) ∧ fm_spin n μ x1 x2 x3 = some (r, μ1) ∧ Rl γ1 μ1
def st_tick (n : Nat) (Rl : CS → MS → Prop) : Prop := ∀ (γ : CS) (μ : MS) (x1 : Int32), Rl γ μ → ∃ (r : Int32) (γ1 : CS) (μ1 : MS), fc_X7_tick n γ x1 = some (r, γ1) ∧ fm_tick n μ x1 = some (r, μ1) ∧ Rl γ1 μ1
def st_state (n : Nat) (Rl : CS → MS → Prop) : Prop := ∀ (γ : CS) (μ : MS) (x1 : Int32), Rl γ μ → ∃ (r : Int32) (γ1 : CS) (μ1 : MS), fc_X7_state n γ x1 = some (r, γ1) ∧ fm_state n μ x1 = some (r, μ1) ∧ Rl γ1 μ1
def st_rolled (n : Nat) (Rl : CS → MS → Prop) : Prop := ∀ (γ : CS) (μ : MS), Rl γ μ → ∃ (r : Int64) (γ1 : CS) (μ1 : MS), fc_X7_rolled n γ = some (r, γ1) ∧ fm_rolled n μ = some (r, μ1) ∧ Rl γ1 μ1
def st_tenth (n : Nat) (Rl : CS → MS → Prop) : Prop := ∀ (γ : CS) (μ : MS) (x1 : Int32) (x2 : Int32), Rl γ μ → ∃ (r : Int32) (γ1 : CS) (μ1 : MS), fc_X7_tenth n γ x1 x2 = some (r, γ1) ∧ fm_tenth n μ x1 x2 = some (r, μ1) ∧ Rl γ1 μ1
def st_lasts (n : Nat) (Rl : CS → MS → Prop) : Prop := ∀ (γ : CS) (μ : MS) (x1 : Int32) (x2 : Int32) (x3 : Int32) (x4 : Int32), Rl γ μ → ∃ (r : Int32) (γ1 : CS) (μ1 : MS), fc_X7_lasts n γ x1 x2 x3 x4 = some (r, γ1) ∧ fm_lasts n μ x1 x2 x3 x4 = some (r, μ1) ∧ Rl γ1 μ1
def st_rules (n : Nat) (Rl : CS → MS → Prop) : Prop := ∀ (γ : CS) (μ : MS) (x1 : Int32), Rl γ μ → ∃ (r : Int32) (γ1 : CS) (μ1 : MS), fc_X7_rules n γ x1 = some (r, γ1) ∧ fm_rules n μ x1 = some (r, μ1) ∧ Rl γ1 μ1
def st_passes (n : Nat) (Rl : CS → MS → Prop) : Prop := ∀ (γ : CS) (μ : MS), Rl γ μ → ∃ (r : Int32) (γ1 : CS) (μ1 : MS), fc_X7_passes n γ = some (r, γ1) ∧ fm_passes n μ = some (r, μ1) ∧ Rl γ1 μ1
def st_heard (n : Nat) (Rl : CS → MS → Prop) : Prop := ∀ (γ : CS) (μ : MS) (x1 : Int32), Rl γ μ → ∃ (r : Int32) (γ1 : CS) (μ1 : MS), fc_X7_heard n γ x1 = some (r, γ1) ∧ fm_heard n μ x1 = some (r, μ1) ∧ Rl γ1 μ1
def st_hush (n : Nat) (Rl : CS → MS → Prop) : Prop := ∀ (γ : CS) (μ : MS), Rl γ μ → ∃ (r : Int32) (γ1 : CS) (μ1 : MS), fc_X7_hush n γ = some (r, γ1) ∧ fm_hush n μ = some (r, μ1) ∧ Rl γ1 μ1
def st_slip (n : Nat) (Rl : CS → MS → Prop) : Prop := ∀ (γ : CS) (μ : MS) (x1 : Int32), Rl γ μ → ∃ (r : Int32) (γ1 : CS) (μ1 : MS), fc_X7_slip n γ x1 = some (r, γ1) ∧ fm_slip n μ x1 = some (r, μ1) ∧ Rl γ1 μ1
def st_firstOff (n : Nat) (Rl : CS → MS → Prop) : Prop := ∀ (γ : CS) (μ : MS) (x1 : Int32), Rl γ μ → ∃ (r : Int32) (γ1 : CS) (μ1 : MS), fc_X7_firstOff n γ x1 = some (r, γ1) ∧ fm_firstOff n μ x1 = some (r, μ1) ∧ Rl γ1 μ1
def st_supposed (n : Nat) (Rl : CS → MS → Prop) : Prop := ∀ (γ : CS) (μ : MS) (x1 : Int32), Rl γ μ → ∃ (r : Int32) (γ1 : CS) (μ1 : MS), fc_X7_supposed n γ x1 = some (r, γ1) ∧ fm_supposed n μ x1 = some (r, μ1) ∧ Rl γ1 μ1
def st_ahead (n : Nat) (Rl : CS → MS → Prop) : Prop := ∀ (γ : CS) (μ : MS) (x1 : Int32) (x2 : Int32) (x3 : Int32), Rl γ μ → ∃ (r : Int32) (γ1 : CS) (μ1 : MS), fc_X7_ahead n γ x1 x2 x3 = some (r, γ1) ∧ fm_ahead n μ x1 x2 x3 = some (r, μ1) ∧ Rl γ1 μ1
def st_parts (n : Nat) (Rl : CS → MS → Prop) : Prop := ∀ (γ : CS) (μ : MS) (x1 : Int32) (x2 : Int32) (x3 : Int32) (x4 : Int32) (x5 : Int32), Rl γ μ → ∃ (r : Int32) (γ1 : CS) (μ1 : MS), fc_X7_parts n γ x1 x2 x3 x4 x5 = some (r, γ1) ∧ fm_parts n μ x1 x2 x3 x4 x5 = some (r, μ1) ∧ Rl γ1 μ1
def st_longest (n : Nat) (Rl : CS → MS → Prop) : Prop := ∀ (γ : CS) (μ : MS) (x1 : Int32) (x2 : Int32) (x3 : Int32), Rl γ μ → ∃ (r : Int32) (γ1 : CS) (μ1 : MS), fc_X7_longest n γ x1 x2 x3 = some (r, γ1) ∧ fm_longest n μ x1 x2 x3 = some (r, μ1) ∧ Rl γ1 μ1
def st_bestFor (n : Nat) (Rl : CS → MS → Prop) : Prop := ∀ (γ : CS) (μ : MS) (x1 : Int32) (x2 : Int32) (x3 : Int32), Rl γ μ → ∃ (r : Int32) (γ1 : CS) (μ1 : MS), fc_X7_bestFor n γ x1 x2 x3 = some (r, γ1) ∧ fm_bestFor n μ x1 x2 x3 = some (r, μ1) ∧ Rl γ1 μ1
def st_ear (n : Nat) (Rl : CS → MS → Prop) : Prop := ∀ (γ : CS) (μ : MS) (x1 : Int32), Rl γ μ → ∃ (r : Int32) (γ1 : CS) (μ1 : MS), fc_X7_ear n γ x1 = some (r, γ1) ∧ fm_ear n μ x1 = some (r, μ1) ∧ Rl γ1 μ1
def st_stagger (n : Nat) (Rl : CS → MS → Prop) : Prop := ∀ (γ : CS) (μ : MS) (x1 : Int32), Rl γ μ → ∃ (r : Int32) (γ1 : CS) (μ1 : MS), fc_X7_stagger n γ x1 = some (r, γ1) ∧ fm_stagger n μ x1 = some (r, μ1) ∧ Rl γ1 μ1
def st_trust (n : Nat) (Rl : CS → MS → Prop) : Prop := ∀ (γ : CS) (μ : MS) (x1 : Int32), Rl γ μ → ∃ (r : Int32) (γ1 : CS) (μ1 : MS), fc_X7_trust n γ x1 = some (r, γ1) ∧ fm_trust n μ x1 = some (r, μ1) ∧ Rl γ1 μ1
def st_leg (n : Nat) (Rl : CS → MS → Prop) : Prop := ∀ (γ : CS) (μ : MS) (x1 : Int32) (x2 : Int32), Rl γ μ → ∃ (r : Int32) (γ1 : CS) (μ1 : MS), fc_X7_leg n γ x1 x2 = some (r, γ1) ∧ fm_leg n μ x1 x2 = some (r, μ1) ∧ Rl γ1 μ1
def st_legs (n : Nat) (Rl : CS → MS → Prop) : Prop := ∀ (γ : CS) (μ : MS) (x1 : Int32) (x2 : Int32), Rl γ μ → ∃ (r : Int32) (γ1 : CS) (μ1 : MS), fc_X7_legs n γ x1 x2 = some (r, γ1) ∧ fm_legs n μ x1 x2 = some (r, μ1) ∧ Rl γ1 μ1
def st_draws (n : Nat) (Rl : CS → MS → Prop) : Prop := ∀ (γ : CS) (μ : MS) (x1 : Int32) (x2 : Int32) (x3 : Int32) (x4 : Int32) (x5 : Int32) (x6 : Int32), Rl γ μ → ∃ (r : Int32) (γ1 : CS) (μ1 : MS), fc_X7_draws n γ x1 x2 x3 x4 x5 x6 = some (r, γ1) ∧ fm_draws n μ x1 x2 x3 x4 x5 x6 = some (r, μ1) ∧ Rl γ1 μ1
def st_image (n : Nat) (Rl : CS → MS → Prop) : Prop := ∀ (γ : CS) (μ : MS), Rl γ μ → ∃ (r : Int32) (γ1 : CS) (μ1 : MS), fc_X7_image n γ = some (r, γ1) ∧ fm_image n μ = some (r, μ1) ∧ Rl γ1 μ1
def st_restore (n : Nat) (Rl : CS → MS → Prop) : Prop := ∀ (γ : CS) (μ : MS), Rl γ μ → ∃ (r : Int32) (γ1 : CS) (μ1 : MS), fc_X7_restore n γ = some (r, γ1) ∧ fm_restore n μ = some (r, μ1) ∧ Rl γ1 μ1
def st_count (n : Nat) (Rl : CS → MS → Prop) : Prop := ∀ (γ : CS) (μ : MS) (x1 : Int32), Rl γ μ → ∃ (r : Int32) (γ1 : CS) (μ1 : MS), fc_X7_count n γ x1 = some (r, γ1) ∧ fm_count n μ x1 = some (r, μ1) ∧ Rl γ1 μ1
def SR (n : Nat) (Rl : CS → MS → Prop) : Prop := st_feed n Rl ∧ st_plate n Rl ∧ st_plateOf n Rl ∧ st_loss n Rl ∧ st_lossOf n Rl ∧ st_floor n Rl ∧ st_air n Rl ∧ st_toneAt n Rl ∧ st_takes n Rl ∧ st_spin n Rl ∧ st_tick n Rl ∧ st_state n Rl ∧ st_rolled n Rl ∧ st_tenth n Rl ∧ st_lasts n Rl ∧ st_rules n Rl ∧ st_passes n Rl ∧ st_heard n Rl ∧ st_hush n Rl ∧ st_slip n Rl ∧ st_firstOff n Rl ∧ st_supposed n Rl ∧ st_ahead n Rl ∧ st_parts n Rl ∧ st_longest n Rl ∧ st_bestFor n Rl ∧ st_ear n Rl ∧ st_stagger n Rl ∧ st_trust n Rl ∧ st_leg n Rl ∧ st_legs n Rl ∧ st_draws n Rl ∧ st_image n Rl ∧ st_restore n Rl ∧ st_count n Rl
def lV (D : va_G) (cy : CY) (z : CZ) (A : Nat → Prop) (s : State) : Prop := va_K D vwCl (ctys cy) s ∧ (∀ q, s.heap.size ≤ q → A q) ∧ cEn z A s s.heap
def lB (D : va_G) (ad am : Nat → Nat) (cy : CY) (A : Nat → Prop) (H0 : Heap) (γ : CS) (μ : MS) (H : Heap) (locs : List Loc) : Prop := 34 ≤ γ.2.2.2.2.2 ∧ iB D A H0 (mw am cy.1 μ ++ cw ad cy γ) H locs
theorem p_l {D : va_G} {a b : va_W} {H : Heap} (h : va_P D vwCl (a ++ b) H) : va_P D vwCl a H := fun k q hk => h k q (by rw [List.getElem?_append_left (List.getElem?_eq_some_iff.mp hk).1]; exact hk)
theorem p_r {D : va_G} {a b : va_W} {H : Heap} (h : va_P D vwCl (a ++ b) H) : va_P D vwCl b H := fun k q hk => h (a.length + k) q (by rw [List.getElem?_append_right (Nat.le_add_right _ _), Nat.add_sub_cancel_left]; exact hk)
theorem d_l {A : Nat → Prop} {a b : va_W} (h : va_D A (a ++ b)) : va_D A a := ⟨fun i j x y h1 h2 h3 => h.1 i j x y (by rw [List.getElem?_append_left (List.getElem?_eq_some_iff.mp h1).1]; exact h1) (by rw [List.getElem?_append_left (List.getElem?_eq_some_iff.mp h2).1]; exact h2) h3, fun k q hk => h.2 k q (by rw [List.getElem?_append_left (List.getElem?_eq_some_iff.mp hk).1]; exact hk)⟩
theorem d_r {A : Nat → Prop} {a b : va_W} (h : va_D A (a ++ b)) : va_D A b := ⟨fun i j x y h1 h2 h3 => by
    have := h.1 (a.length + i) (a.length + j) x y (by rw [List.getElem?_append_right (Nat.le_add_right _ _), Nat.add_sub_cancel_left]; exact h1) (by rw [List.getElem?_append_right (Nat.le_add_right _ _), Nat.add_sub_cancel_left]; exact h2) h3
    omega, fun k q hk => h.2 (a.length + k) q (by rw [List.getElem?_append_right (Nat.le_add_right _ _), Nat.add_sub_cancel_left]; exact hk)⟩
theorem d_x {A : Nat → Prop} {a b : va_W} (h : va_D A (a ++ b)) {i j : Nat} {x y : Nat × va_E} (hx : a[i]? = some x) (hy : b[j]? = some y) (hxy : x.1 = y.1) : False := by
  have h1 := (List.getElem?_eq_some_iff.mp hx).1
  have := h.1 i (a.length + j) x y (by rw [List.getElem?_append_left h1]; exact hx) (by rw [List.getElem?_append_right (Nat.le_add_right _ _), Nat.add_sub_cancel_left]; exact hy) hxy
  omega
theorem b_sw {D : va_G} {A : Nat → Prop} {H0 : Heap} {a b : va_W} {H : Heap} {locs : List Loc} (h : iB D A H0 (a ++ b) H locs) : iB D A H0 (b ++ a) H locs :=
  ⟨va_P.app (p_r h.1) (p_l h.1), va_D.app (d_r h.2.1) (d_l h.2.1) (fun _ _ _ _ hx hy hxy => d_x h.2.1 hy hx hxy.symm), h.2.2⟩
section
variable {p : Program} {l : Launch} {e : Env} {R : Room} {s : State} {m : MethodId} {args : Array Value} {below : List Frame} {meth : Method} {c : Code} {H : Heap} {locs : List Loc} {cells slots : Nat} {Q : State → Prop}
variable {cc : ByteArray} {pc : Nat} {ls : Array Slot} {rest : List Value} {D : va_G} {A : Nat → Prop} {ad am : Nat → Nat} {cy : CY} {z : CZ} {γ γ1 : CS} {μ μ1 : MS} {Ts : List Cond} {index : Nat} {own : String}
theorem run_mono {mc ms : Nat} {g : JFrame} {Qa Qb : State → Outcome → State → Prop} {free : Addr → Prop} (h : va_Run p l e R s m args below meth c H locs cells slots mc ms g rest Qa free) (hq : ∀ st o t, Qa st o t → Qb st o t) : va_Run p l e R s m args below meth c H locs cells slots mc ms g rest Qb free := fun T hT X => by
  obtain ⟨v, st₀, t, T', L, h1, h2, h3, h4, h5, h6, h7⟩ := h T hT X
  exact ⟨v, st₀, t, T', L, h1, h2, h3, h4, h5, hq _ _ _ h6, h7⟩
theorem l_after {Post : Option Value → va_W → Prop} {st0 : List Value} {mc ms : Nat} {wr wc : va_W} (hr : va_Run p l e R s m args below meth c H locs cells slots mc ms (F0 m pc ls st0) rest (fun st oc t => (∃ v w1, oc = .returned v ∧ Post v w1 ∧ va_P D vwCl w1 t.heap ∧ va_D (va_A wc H.size) w1) ∧ va_F (va_A wc H.size) st t) (va_A wc H.size)) (hA : ∀ q, s.heap.size ≤ q → A q) (hB : iB D A s.heap (wr ++ wc) H locs) (kk : ∀ v w1, Post v w1 → ∀ (H1 : Heap) (locs1 : List Loc), iB D A s.heap (wr ++ w1) H1 locs1 → W p l e R s m args below meth c H1 locs1 (cells + mc) (slots + ms) Q (F0 m (pc + 3) ls (v.toList ++ rest))) : W p l e R s m args below meth c H locs cells slots Q (F0 m pc ls st0) := by
  have hPr := p_l hB.1
  have hF : ∀ q, va_A wc H.size q → A q := fun q h => by
    rcases h with ⟨k, e, h⟩ | h
    · exact (d_r hB.2.1).2 k (q, e) h
    · exact hA q (Nat.le_trans hB.2.2.1 h)
  have apart : ∀ (k : Nat) (q : Nat × va_E), wr[k]? = some q → q.1 < H.size ∧ ¬ va_A wc H.size q.1 := fun k q hq => by
    have hl := (hPr k q hq).lt
    refine ⟨hl, fun h => ?_⟩
    rcases h with ⟨k2, e, h⟩ | h
    · exact d_x hB.2.1 hq h rfl
    · omega
  intro T hT X
  obtain ⟨v, st₀, t, T', L, h0, X', hL, e1, e2, ⟨⟨v1, w1, hv, hw1, hp, hd⟩, hz, hk⟩, stp⟩ := hr T hT X
  cases hv
  rw [h0] at hz hk
  have hP1 : va_P D vwCl (wr ++ w1) T'.heap := va_P.app (fun k q hq => (hPr k q hq).kept (by rw [e1]; exact hk q.1 (apart k q hq).1 (apart k q hq).2)) (by rw [e1]; exact hp)
  have hD1 : va_D A (wr ++ w1) := va_D.app (d_l hB.2.1) (hd.weaken (fun _ q _ h => hF q.1 h)) (fun i j x y hx hy hxy => (apart i x hx).2 (by rw [hxy]; exact hd.2 j y hy))
  obtain ⟨t2, a1, b1⟩ := kk v w1 hw1 T'.heap (locs ++ L) ⟨hP1, hD1, Nat.le_trans hB.2.2.1 (by rw [e1]; exact hz), fun q h1 h2 => by rw [e1, hk q (Nat.lt_of_lt_of_le h1 hB.2.2.1) (fun z => h2 (hF q z))]; exact hB.2.2.2.1 q h1 h2, fun q hq => by
      rcases List.mem_append.mp hq with h | h
      · exact hB.2.2.2.2 q h
      · exact hF _ (hL q h)⟩ T' rfl X'
  exact ⟨t2, stp t2 a1, b1⟩
theorem lfree {wr wc : va_W} (hA : ∀ q, s.heap.size ≤ q → A q) (hB : iB D A s.heap (wr ++ wc) H locs) : ∀ q, va_A wc H.size q → A q := fun q h => by
  rcases h with ⟨k, e, h⟩ | h
  · exact (d_r hB.2.1).2 k (q, e) h
  · exact hA q (Nat.le_trans hB.2.2.1 h)
theorem lbegin {av : List Value} (hV : lV D cy z A s) (hB : lB D ad am cy A s.heap γ μ H locs) : ∀ U : State, U.heap = H → s.WarmedH U.vm → va_Pc av (cU D ad cy z γ H.size) av.toArray U := fun U hU hW => ⟨rfl, by rw [hU], hB.1, by rw [hU]; exact p_r hB.2.1, va_K.moved hW.alike hV.1, (d_r hB.2.2.1).weaken (fun _ _ _ _ => trivial), cEn.call hV.2.2 hB.2.2.2 hU hW (lfree hV.2.1 hB.2)⟩
theorem lx_call {rv : Option Value} {y : MethodName} {wsy : List Cond} {rm : Room} {bytes : ByteArray} {maxL nL nA : Nat} {ret : Option FieldType} {av st : List Value} (hx : p.tables.exec = Jvm.exec) (hb : c.code = cc) (hml : c.maxLocals = nL) (hown : s.vm.findClass own = some m.cls) (hts : ∀ w ∈ Ts, w.before args s = true) (hls : ls.size = nL) (hV : lV D cy z A s) (hB : lB D ad am cy A s.heap γ μ H locs) (hM : cM l y wsy rm D ad cy z (.ref (ad 0) :: av) γ rv γ1) (cw0 : CallW R s args own RX7 index y bytes maxL ret wsy rm 0 0 nA) (hn : av.length = nA) (hst : st = av.reverse ++ .ref (ad 0) :: rest) (hroom : 2 * (F0 m pc ls st).monitorRoom + (rest.map fun v => v.category).sum ≤ 8) (hdg : decode cc pc = .ok (.invokevirtual index, 3)) (hc : cells + 0 ≤ R.cells) (hs : slots + 0 ≤ R.slots) (kk : ∀ (H1 : Heap) (locs1 : List Loc), lB D ad am cy A s.heap γ1 μ H1 locs1 → W p l e R s m args below meth c H1 locs1 cells slots Q (F0 m (pc + 3) ls (rv.toList ++ rest))) : W p l e R s m args below meth c H locs cells slots Q (F0 m pc ls (st)) := by
  refine l_after (Post := fun v w1 => v = rv ∧ 34 ≤ γ1.2.2.2.2.2 ∧ w1 = cw ad cy γ1) (run_mono (va_runV (As := av) (rest := rest) ⟨hx, hb, hml, hown, hts⟩ (hM H.size) cw0 ⟨cblind, va_recv hV.1 (p_r hB.2.1) (ci := 7) (q0 := 0) rfl ((cw_at (Nat.lt_of_lt_of_le (by decide) hB.1)).trans (by rw [ceq_0])), lbegin hV hB⟩ rfl hn hls hst hroom hdg ⟨hc, hs⟩) (fun st o t h => ⟨⟨rv, _, h.1.1, ⟨rfl, h.1.2.1, rfl⟩, h.1.2.2.1, h.1.2.2.2⟩, h.2⟩)) hV.2.1 hB.2 (fun v w1 hw H1 locs1 hB1 => ?_)
  obtain ⟨rfl, h34, rfl⟩ := hw
  exact kk H1 locs1 ⟨h34, hB1⟩
theorem lx_callA {rv : (Nat → Nat) → Option Value} {y : MethodName} {wsy : List Cond} {rm : Room} {bytes : ByteArray} {maxL nL nA mc ms : Nat} {ret : Option FieldType} {av st : List Value} (hx : p.tables.exec = Jvm.exec) (hb : c.code = cc) (hml : c.maxLocals = nL) (hown : s.vm.findClass own = some m.cls) (hts : ∀ w ∈ Ts, w.before args s = true) (hls : ls.size = nL) (hV : lV D cy z A s) (hB : lB D ad am cy A s.heap γ μ H locs) (hM : cMa l y wsy rm D ad cy z (.ref (ad 0) :: av) γ rv γ1 mc ms) (cw0 : CallW R s args own RX7 index y bytes maxL ret wsy rm mc ms nA) (hn : av.length = nA) (hst : st = av.reverse ++ .ref (ad 0) :: rest) (hroom : 2 * (F0 m pc ls st).monitorRoom + (rest.map fun v => v.category).sum ≤ 8) (hdg : decode cc pc = .ok (.invokevirtual index, 3)) (hc : cells + mc ≤ R.cells) (hs : slots + ms ≤ R.slots) (kk : ∀ ad1 : Nat → Nat, (∀ j, j < γ.2.2.2.2.2 → ad1 j = ad j) → ∀ (H1 : Heap) (locs1 : List Loc), lB D ad1 am cy A s.heap γ1 μ H1 locs1 → W p l e R s m args below meth c H1 locs1 (cells + mc) (slots + ms) Q (F0 m (pc + 3) ls ((rv ad1).toList ++ rest))) : W p l e R s m args below meth c H locs cells slots Q (F0 m pc ls (st)) := by
  refine l_after (Post := fun v w1 => ∃ ad1 : Nat → Nat, (∀ j, j < γ.2.2.2.2.2 → ad1 j = ad j) ∧ v = rv ad1 ∧ 34 ≤ γ1.2.2.2.2.2 ∧ w1 = cw ad1 cy γ1) (run_mono (va_runV (As := av) (rest := rest) ⟨hx, hb, hml, hown, hts⟩ (hM H.size) cw0 ⟨cblind, va_recv hV.1 (p_r hB.2.1) (ci := 7) (q0 := 0) rfl ((cw_at (Nat.lt_of_lt_of_le (by decide) hB.1)).trans (by rw [ceq_0])), lbegin hV hB⟩ rfl hn hls hst hroom hdg ⟨hc, hs⟩) (fun st o t h => ?_)) hV.2.1 hB.2 (fun v w1 hw H1 locs1 hB1 => ?_)
  · obtain ⟨⟨ad1, h1, h2, h3, h4, h5⟩, h6⟩ := h
    exact ⟨⟨rv ad1, _, h2, ⟨ad1, h1, rfl, h3, rfl⟩, h4, h5⟩, h6⟩
  · obtain ⟨ad1, h1, rfl, h34, rfl⟩ := hw
    exact kk ad1 h1 H1 locs1 ⟨h34, hB1⟩
theorem lm_calli {r0 : Int32} {y : MethodName} {wsy : List Cond} {rm : Room} {bytes : ByteArray} {maxL nL nA : Nat} {ret : Option FieldType} {av st : List Value} (hx : p.tables.exec = Jvm.exec) (hb : c.code = cc) (hml : c.maxLocals = nL) (hown : s.vm.findClass own = some m.cls) (hts : ∀ w ∈ Ts, w.before args s = true) (hls : ls.size = nL) (hV : lV D cy z A s) (hB : lB D ad am cy A s.heap γ μ H locs) (hM : mMi l y wsy rm D am cy.1 (.ref (am 0) :: av) μ r0 μ1) (cw0 : CallW R s args own RX8 index y bytes maxL ret wsy rm 0 0 nA) (hn : av.length = nA) (hst : st = av.reverse ++ .ref (am 0) :: rest) (hroom : 2 * (F0 m pc ls st).monitorRoom + (rest.map fun v => v.category).sum ≤ 8) (hdg : decode cc pc = .ok (.invokevirtual index, 3)) (hc : cells + 0 ≤ R.cells) (hs : slots + 0 ≤ R.slots) (kk : ∀ (H1 : Heap) (locs1 : List Loc), lB D ad am cy A s.heap γ μ1 H1 locs1 → W p l e R s m args below meth c H1 locs1 cells slots Q (F0 m (pc + 3) ls (.int r0 :: rest))) : W p l e R s m args below meth c H locs cells slots Q (F0 m pc ls (st)) := by
  refine l_after (Post := fun v w1 => v = some (.int r0) ∧ w1 = mw am cy.1 μ1) (wr := cw ad cy γ) (run_mono (va_runV (As := av) (rest := rest) ⟨hx, hb, hml, hown, hts⟩ (hM H.size) cw0 ⟨fun a U g mk q => ⟨q.1, q.2.1, q.2.2.1, va_K.moved (u := U) (U := U.calling g mk a) (Vm.Alike.refl U.vm) q.2.2.2.1, q.2.2.2.2⟩, va_recv hV.1 (p_l hB.2.1) (ci := 8) (q0 := 0) rfl rfl, fun U hU hW => ⟨rfl, by rw [hU], by rw [hU]; exact p_l hB.2.1, va_K.moved hW.alike (hV.1.sub [0] rfl), (d_l hB.2.2.1).weaken (fun _ _ _ _ => trivial)⟩⟩ rfl hn hls hst hroom hdg ⟨hc, hs⟩) (fun st o t h => ?_)) hV.2.1 (b_sw hB.2) (fun v w1 hw H1 locs1 hB1 => ?_)
  · obtain ⟨⟨r, u, h1, h2, h3, h4, h5, h6⟩, h7⟩ := h
    obtain rfl : r = r0 := h2
    obtain rfl : u = μ1 := h3
    exact ⟨⟨_, _, h1, ⟨rfl, rfl⟩, h4, h6⟩, h7⟩
  · obtain ⟨rfl, rfl⟩ := hw
    exact kk H1 locs1 ⟨hB.1, b_sw hB1⟩
theorem lm_calll {r0 : Int64} {y : MethodName} {wsy : List Cond} {rm : Room} {bytes : ByteArray} {maxL nL nA : Nat} {ret : Option FieldType} {av st : List Value} (hx : p.tables.exec = Jvm.exec) (hb : c.code = cc) (hml : c.maxLocals = nL) (hown : s.vm.findClass own = some m.cls) (hts : ∀ w ∈ Ts, w.before args s = true) (hls : ls.size = nL) (hV : lV D cy z A s) (hB : lB D ad am cy A s.heap γ μ H locs) (hM : mMl l y wsy rm D am cy.1 (.ref (am 0) :: av) μ r0 μ1) (cw0 : CallW R s args own RX8 index y bytes maxL ret wsy rm 0 0 nA) (hn : av.length = nA) (hst : st = av.reverse ++ .ref (am 0) :: rest) (hroom : 2 * (F0 m pc ls st).monitorRoom + (rest.map fun v => v.category).sum ≤ 8) (hdg : decode cc pc = .ok (.invokevirtual index, 3)) (hc : cells + 0 ≤ R.cells) (hs : slots + 0 ≤ R.slots) (kk : ∀ (H1 : Heap) (locs1 : List Loc), lB D ad am cy A s.heap γ μ1 H1 locs1 → W p l e R s m args below meth c H1 locs1 cells slots Q (F0 m (pc + 3) ls (.long r0 :: rest))) : W p l e R s m args below meth c H locs cells slots Q (F0 m pc ls (st)) := by
  refine l_after (Post := fun v w1 => v = some (.long r0) ∧ w1 = mw am cy.1 μ1) (wr := cw ad cy γ) (run_mono (va_runV (As := av) (rest := rest) ⟨hx, hb, hml, hown, hts⟩ (hM H.size) cw0 ⟨fun a U g mk q => ⟨q.1, q.2.1, q.2.2.1, va_K.moved (u := U) (U := U.calling g mk a) (Vm.Alike.refl U.vm) q.2.2.2.1, q.2.2.2.2⟩, va_recv hV.1 (p_l hB.2.1) (ci := 8) (q0 := 0) rfl rfl, fun U hU hW => ⟨rfl, by rw [hU], by rw [hU]; exact p_l hB.2.1, va_K.moved hW.alike (hV.1.sub [0] rfl), (d_l hB.2.2.1).weaken (fun _ _ _ _ => trivial)⟩⟩ rfl hn hls hst hroom hdg ⟨hc, hs⟩) (fun st o t h => ?_)) hV.2.1 (b_sw hB.2) (fun v w1 hw H1 locs1 hB1 => ?_)
  · obtain ⟨⟨r, u, h1, h2, h3, h4, h5, h6⟩, h7⟩ := h
    obtain rfl : r = r0 := h2
    obtain rfl : u = μ1 := h3
    exact ⟨⟨_, _, h1, ⟨rfl, rfl⟩, h4, h6⟩, h7⟩
  · obtain ⟨rfl, rfl⟩ := hw
    exact kk H1 locs1 ⟨hB.1, b_sw hB1⟩
end
theorem cmp_self (x : Int64) : lg_cmp x x = 0 := by simp [lg_cmp]
