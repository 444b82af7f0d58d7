/-- what the constructors need of the start: array classes over two classes, four links between nest mates -/
def iEn (U : State) : Prop := va_AO "PlateRings$Plate" U ∧ va_AO "PlateRings$Loss" U ∧ va_Nw (.methodLinkNest RX7 9 yX6_init RX7) U ∧ va_Nw (.methodLinkNest RX7 22 yX0_init RX7) U ∧ va_Nw (.methodLinkNest RX0 38 yX5_init RX7) U ∧ va_Nw (.methodLinkNest RX0 45 yX4_init RX7) U
theorem iEn.call {s U : State} (h : iEn s) (hW : s.WarmedH U.vm) : iEn U := ⟨va_AO.moved hW.alike h.1, va_AO.moved hW.alike h.2.1, va_Nw.warmM hW h.2.2.1, va_Nw.warmM hW h.2.2.2.1, va_Nw.warmM hW h.2.2.2.2.1, va_Nw.warmM hW h.2.2.2.2.2⟩
theorem iEn.same {U V : State} (h : iEn U) (hv : U.vm = V.vm) (ha : U.vm.Alike V.vm) : iEn V := ⟨va_AO.moved ha h.1, va_AO.moved ha h.2.1, va_Nw.same rfl hv h.2.2.1, va_Nw.same rfl hv h.2.2.2.1, va_Nw.same rfl hv h.2.2.2.2.1, va_Nw.same rfl hv h.2.2.2.2.2⟩
def iV (D : va_G) (cy : CY) (A : Nat → Prop) (s : State) : Prop := va_K D vwCl (ctys cy) s ∧ (∀ q, s.heap.size ≤ q → A q) ∧ iEn s
def iB (D : va_G) (A : Nat → Prop) (H0 : Heap) (w : va_W) (H : Heap) (locs : List Loc) : Prop := va_P D vwCl w H ∧ va_D A w ∧ va_S A H0 H locs
def iU (D : va_G) (cy : CY) (w : va_W) (sz : Nat) (U : State) : Prop := U.heap.size = sz ∧ va_P D vwCl w U.heap ∧ va_K D vwCl (ctys cy) U ∧ va_D (fun _ => True) w ∧ iEn U
def iQ (D : va_G) (A : Nat → Prop) (Post : va_W → Prop) : Array Value → State → Outcome → State → Prop := fun _ st oc t => (oc = .returned none ∧ ∃ w1, Post w1 ∧ va_P D vwCl w1 t.heap ∧ va_D A w1) ∧ va_F A st t
def iM (l : Launch) (y : MethodName) (ws : List Cond) (rm : Room) (D : va_G) (cy : CY) (av : List Value) (w : va_W) (Post : va_W → Prop) (mc ms : Nat) : Prop := ∀ sz : Nat, Met l y ws rm (va_Pc av (iU D cy w sz)) (iQ D (va_A w sz) Post) mc ms (va_A w sz)
section
variable {p : Program} {l : Launch} {e : Env} {R : Room} {s : State} {m : MethodId} {args : Array Value} {below : List Frame} {meth : Method} {c : Code} {H : Heap} {locs : List Loc} {cells slots : Nat} {Q : State → Prop}
variable {cc : ByteArray} {pc : Nat} {ls : Array Slot} {rest : List Value} {D : va_G} {A : Nat → Prop} {cy : CY} {w : va_W} {Ts : List Cond} {index : Nat} {own : String}
theorem ri_newa (hx : p.tables.exec = Jvm.exec) (hb : c.code = cc) (harr : (Cond.arrayClass .int).before args s = true) (hV : iV D cy A s) (hB : iB D A s.heap w H locs) {n : Int32} (hn : ¬ n < 0) {N : Nat} (hN : n.toNatClampNeg = N) (hbytes : N * componentBytes .int ≤ 536870912) (hcells : cells + 1 ≤ R.cells) (hslots : slots + N ≤ R.slots) (hdg : decode cc pc = .ok (.newarray .int, 2)) (kk : ∀ (q : Nat) (H1 : Heap), iB D A s.heap (w ++ [(q, .inl (cy.1, N, .inl (fun _ => 0)))]) H1 locs → W p l e R s m args below meth c H1 locs (cells + 1) (slots + N) Q (F0 m (pc + 2) ls (.ref q :: rest))) : W p l e R s m args below meth c H locs cells slots Q (F0 m pc ls (.int n :: rest)) := by
  refine va_newa (a0 := (N, .inl (fun _ => 0))) (atype := .int) hx hb harr rfl hV.1 hB.1 hB.2.1 hB.2.2 hV.2.1 (fun _ => rfl) hn hN hbytes hcells hslots hdg (fun q cA H1 hK1 hP hD hS => ?_)
  have e1 : s.vm.findClass ("[" ++ FieldType.int.toString) = some cy.1 := (hV.1.2 0 _ rfl).2
  have e2 : s.vm.findClass ("[" ++ FieldType.int.toString) = some cA := (hK1.2 3 _ rfl).2
  obtain rfl : cy.1 = cA := Option.some.inj (e1.symm.trans e2)
  exact kk q H1 ⟨hP, hD, hS⟩
theorem ri_newq (hx : p.tables.exec = Jvm.exec) (hb : c.code = cc) {C : String} (hown : s.vm.findClass own = some m.cls) (hcl : (Cond.classLink own index C).before args s = true) (hover : va_AO C s) (hV : iV D cy A s) (hB : iB D A s.heap w H locs) {n : Int32} (hn : ¬ n < 0) {N : Nat} (hN : n.toNatClampNeg = N) (hbytes : N * 4 ≤ 536870912) (hcells : cells + 1 ≤ R.cells) (hslots : slots + N ≤ R.slots) (hdg : decode cc pc = .ok (.anewarray index, 3)) (t0 : Nat) {cA : ClassId} (ht : (ctys cy)[t0]? = some (cA, .object C)) (kk : ∀ (q : Nat) (H1 : Heap), iB D A s.heap (w ++ [(q, .inl (cA, N, .inr (.inr (.inr (.inr (fun _ => none))))))]) H1 locs → W p l e R s m args below meth c H1 locs (cells + 1) (slots + N) Q (F0 m (pc + 3) ls (.ref q :: rest))) : W p l e R s m args below meth c H locs cells slots Q (F0 m pc ls (.int n :: rest)) := by
  refine va_newq hx hb hown hcl hover hV.1 hB.1 hB.2.1 hB.2.2 hV.2.1 hn hN hbytes hcells hslots hdg (fun q cB H1 hK1 hP hD hS => ?_)
  obtain ⟨_, _, _, _, _, e1⟩ := (hV.1.2 t0 _ ht).2
  obtain ⟨_, _, _, _, _, e2⟩ := (hK1.2 3 (cB, .object C) rfl).2
  obtain rfl : cA = cB := Option.some.inj (e1.symm.trans e2)
  exact kk q H1 ⟨hP, hD, hS⟩
theorem ri_new (hx : p.tables.exec = Jvm.exec) (hb : c.code = cc) {C : String} {T : u_T} {N ci : Nat} (hts : ∀ w ∈ Ts, w.before args s = true) (hin : ∀ w ∈ u_ws C T N, w ∈ Ts) (ty : Nat → FieldType) (hty : ∀ k, k < N → parseFieldDescriptor (T k).2.2.1 = some (ty k)) (hown : s.vm.findClass own = some m.cls) (hcl : (Cond.classLink own index C).before args s = true) (hinst : (Cond.instantiable C N).before args s = true) (hini : (Cond.initialized C).before args s = true) (hV : iV D cy A s) (hB : iB D A s.heap w H locs) (hc : vwCl[ci]? = some (C, T, N)) {fs : List Value} (hfs : ∀ j, j < N → defaultValue (ty j) = vp_V fs j) (hcells : cells + 1 ≤ R.cells) (hslots : slots + N ≤ R.slots) (hdg : decode cc pc = .ok (.new index, 3)) (kk : ∀ (q : Nat) (H1 : Heap), iB D A s.heap (w ++ [(q, .inr (ci, fs))]) H1 locs → W p l e R s m args below meth c H1 locs (cells + 1) (slots + N) Q (F0 m (pc + 3) ls (.ref q :: rest))) : W p l e R s m args below meth c H locs cells slots Q (F0 m pc ls (rest)) :=
  va_new hx hb hts hin ty hty hown hcl hinst hini hV.1 hB.1 hB.2.1 hB.2.2 hV.2.1 hc hfs hcells hslots hdg (fun q H1 hP hD hS => kk q H1 ⟨hP, hD, hS⟩)
theorem ri_put (hx : p.tables.exec = Jvm.exec) (hb : c.code = cc) {C : String} {T : u_T} {N ci : Nat} (hts : ∀ w ∈ Ts, w.before args s = true) (hin : ∀ w ∈ u_ws C T N, w ∈ Ts) (ty0 : Nat → FieldType) (hty : ∀ k, k < N → parseFieldDescriptor (T k).2.2.1 = some (ty0 k)) (hnm : ∀ a, a < N → ∀ b, b < N → a ≠ b → (T a).2.1 ≠ (T b).2.1) (hown : s.vm.findClass own = some m.cls) (hV : iV D cy A s) (hB : iB D A s.heap w H locs) (q0 : Nat) {a : Nat} {fs : List Value} (he : w[q0]? = some (a, .inr (ci, fs))) (hc : vwCl[ci]? = some (C, T, N)) (k : Nat) (hk : k < N) {ref : String} (hlink : (Cond.fieldLink own index ref (T k).2.1 (T k).2.2.1).before args s = true) (hsame : ∀ x, s.fieldFound? (T k).1 (T k).2.1 (T k).2.2.1 = some x → s.fieldFound? ref (T k).2.1 (T k).2.2.1 = some x) (hfin : (T k).2.2.2 = false) {ty : FieldType} {v : Value} (hd : parseFieldDescriptor (T k).2.2.1 = some ty) (hn : narrow ty v = v) (hfit : fits ty v = true) (hl : k < fs.length) (hdg : decode cc pc = .ok (.putfield index, 3)) (kk : ∀ (H1 : Heap) (locs1 : List Loc), iB D A s.heap (w.set q0 (a, .inr (ci, fs.set k v))) H1 locs1 → W p l e R s m args below meth c H1 locs1 cells slots Q (F0 m (pc + 3) ls (rest))) : W p l e R s m args below meth c H locs cells slots Q (F0 m pc ls (v :: .ref a :: rest)) :=
  va_put hx hb hts hin ty0 hty hnm hown hV.1 hB.1 hB.2.1 hB.2.2 q0 he hc k hk hlink hsame hfin hd hn hfit hl hdg (fun H1 locs1 hP hD hS => kk H1 locs1 ⟨hP, hD, hS⟩)
theorem ri_putF (hx : p.tables.exec = Jvm.exec) (hb : c.code = cc) {C : String} {T : u_T} {N ci : Nat} (hts : ∀ w ∈ Ts, w.before args s = true) (hin : ∀ w ∈ u_ws C T N, w ∈ Ts) (ty0 : Nat → FieldType) (hty : ∀ k, k < N → parseFieldDescriptor (T k).2.2.1 = some (ty0 k)) (hnm : ∀ a, a < N → ∀ b, b < N → a ≠ b → (T a).2.1 ≠ (T b).2.1) (hown : s.vm.findClass own = some m.cls) (hV : iV D cy A s) (hB : iB D A s.heap w H locs) (q0 : Nat) {a : Nat} {fs : List Value} (he : w[q0]? = some (a, .inr (ci, fs))) (hc : vwCl[ci]? = some (C, T, N)) (k : Nat) (hk : k < N) {ref : String} (hlink : (Cond.fieldLink own index ref (T k).2.1 (T k).2.2.1).before args s = true) (hsame : ∀ x, s.fieldFound? (T k).1 (T k).2.1 (T k).2.2.1 = some x → s.fieldFound? ref (T k).2.1 (T k).2.2.1 = some x) (hfin : (T k).2.2.2 = true) (hin2 : meth.name = "<init>") (hdecl : (T k).1 = own) {ty : FieldType} {v : Value} (hd : parseFieldDescriptor (T k).2.2.1 = some ty) (hn : narrow ty v = v) (hfit : fits ty v = true) (hl : k < fs.length) (hdg : decode cc pc = .ok (.putfield index, 3)) (kk : ∀ (H1 : Heap) (locs1 : List Loc), iB D A s.heap (w.set q0 (a, .inr (ci, fs.set k v))) H1 locs1 → W p l e R s m args below meth c H1 locs1 cells slots Q (F0 m (pc + 3) ls (rest))) : W p l e R s m args below meth c H locs cells slots Q (F0 m pc ls (v :: .ref a :: rest)) :=
  va_putF hx hb hts hin ty0 hty hnm hown hV.1 hB.1 hB.2.1 hB.2.2 q0 he hc k hk hlink hsame hfin hin2 hdecl hd hn hfit hl hdg (fun H1 locs1 hP hD hS => kk H1 locs1 ⟨hP, hD, hS⟩)
theorem ri_ast (hx : p.tables.exec = Jvm.exec) (hb : c.code = cc) (hV : iV D cy A s) (hB : iB D A s.heap w H locs) (q0 : Nat) {a n : Nat} {f : Nat → Int32} (ha : w[q0]? = some (a, .inl (cy.1, n, .inl f))) {i x : Int32} (hin : ib i n = true) (hdg : decode cc pc = .ok (.iastore, 1)) (kk : ∀ (H1 : Heap) (locs1 : List Loc), iB D A s.heap (w.set q0 (a, .inl (cy.1, n, .inl (upd f i.toNatClampNeg x)))) H1 locs1 → W p l e R s m args below meth c H1 locs1 cells slots Q (F0 m (pc + 1) ls (rest))) : W p l e R s m args below meth c H locs cells slots Q (F0 m pc ls (.int x :: .int i :: .ref a :: rest)) :=
  va_iast hx hb hV.1 hB.1 hB.2.1 hB.2.2 q0 0 ha rfl (ib_in hin) hdg (fun H1 locs1 hP hD hS => kk H1 locs1 ⟨hP, hD, hS⟩)
theorem ri_callI {y : MethodName} {wsy : List Cond} {rm : Room} {bytes : ByteArray} {maxL nL nA mc ms : Nat} {As st : List Value} {a : Nat} {Post : va_W → Prop} (hx : p.tables.exec = Jvm.exec) (hb : c.code = cc) (hml : c.maxLocals = nL) (hown : s.vm.findClass own = some m.cls) (hts : ∀ w ∈ Ts, w.before args s = true) (hls : ls.size = nL) (hV : iV D cy A s) {wr wc : va_W} (hB : iB D A s.heap (wr ++ wc) H locs) (hM : iM l y wsy rm D cy (.ref a :: As) wc Post mc ms) (cw0 : CallB R s args own index y bytes maxL none wsy rm mc ms nA ∧ y.name = "<init>" ∧ (Cond.instanceMethod y).before args s = true) (hn : As.length = nA) (hst : st = As.reverse ++ .ref a :: rest) (hroom : 2 * (F0 m pc ls st).monitorRoom + (rest.map fun v => v.category).sum ≤ 8) (hdg : decode cc pc = .ok (.invokespecial index, 3)) (hc : cells + mc ≤ R.cells) (hs : slots + ms ≤ R.slots) (kk : ∀ (w1 : va_W), Post w1 → ∀ (H1 : Heap) (locs1 : List Loc), iB D A s.heap (wr ++ w1) H1 locs1 → W p l e R s m args below meth c H1 locs1 (cells + mc) (slots + ms) Q (F0 m (pc + 3) ls (rest))) : W p l e R s m args below meth c H locs cells slots Q (F0 m pc ls (st)) := by
  have hPc : va_P D vwCl wc H := fun k q hk => hB.1 (wr.length + k) q (by rw [List.getElem?_append_right (Nat.le_add_right _ _), Nat.add_sub_cancel_left]; exact hk)
  have hDc : va_D A wc := ⟨fun i j x y h1 h2 h3 => by
      have := hB.2.1.1 (wr.length + i) (wr.length + j) x y (by rw [List.getElem?_append_right (Nat.le_add_right _ _), Nat.add_sub_cancel_left]; exact h1) (by rw [List.getElem?_append_right (Nat.le_add_right _ _), Nat.add_sub_cancel_left]; exact h2) h3
      omega, fun k q hk => hB.2.1.2 (wr.length + k) q (by rw [List.getElem?_append_right (Nat.le_add_right _ _), Nat.add_sub_cancel_left]; exact hk)⟩
  have hPr : va_P D vwCl wr H := fun k q hk => hB.1 k q (by rw [List.getElem?_append_left (List.getElem?_eq_some_iff.mp hk).1]; exact hk)
  have hF : ∀ q, va_A wc H.size q → A q := fun q h => by
    rcases h with ⟨k, e, h⟩ | h
    · exact hDc.2 k (q, e) h
    · exact hV.2.1 q (Nat.le_trans hB.2.2.1 h)
  have apart : ∀ (k : Nat) (q : Nat × va_E), wr[k]? = some q → q.1 < H.size ∧ ¬ va_A wc H.size q.1 := fun k q hq => by
    have hl := (hPr k q hq).lt
    refine ⟨hl, fun h => ?_⟩
    rcases h with ⟨k2, e, h⟩ | h
    · have := hB.2.1.1 k (wr.length + k2) q (q.1, e) (by rw [List.getElem?_append_left (List.getElem?_eq_some_iff.mp hq).1]; exact hq) (by rw [List.getElem?_append_right (Nat.le_add_right _ _), Nat.add_sub_cancel_left]; exact h) rfl
      have := (List.getElem?_eq_some_iff.mp hq).1
      omega
    · omega
  have hr := va_runI (l := l) (e := e) (below := below) (meth := meth) (H := H) (locs := locs) (cells := cells) (slots := slots) (As := As) (rest := rest) (g := F0 m pc ls st) ⟨hx, hb, hml, hown, hts⟩ (hM H.size) cw0 ⟨fun a U g mk q => ⟨q.1, q.2.1, q.2.2.1, va_K.moved (u := U) (U := U.calling g mk a) (Vm.Alike.refl U.vm) q.2.2.2.1, q.2.2.2.2.1, iEn.same q.2.2.2.2.2 rfl (Vm.Alike.refl U.vm)⟩, fun U hU hW => ⟨rfl, by rw [hU], by rw [hU]; exact hPc, va_K.moved hW.alike hV.1, hDc.weaken (fun _ _ _ _ => trivial), iEn.call hV.2.2 hW⟩⟩ rfl hn hls hst hroom hdg ⟨hc, hs⟩
  intro T hT X
  obtain ⟨v, st₀, t, T', L, h0, X', hL, e1, e2, ⟨⟨hv, w1, hw1, hp, hd⟩, hz, hk⟩, stp⟩ := hr T hT X
  cases hv
  rw [h0] at hz hk
  have hP1 : va_P D vwCl (wr ++ w1) T'.heap := va_P.app (fun k q hq => (hPr k q hq).kept (by rw [e1]; exact hk q.1 (apart k q hq).1 (apart k q hq).2)) (by rw [e1]; exact hp)
  have hD1 : va_D A (wr ++ w1) := va_D.app ⟨fun i j x y h1 h2 h3 => hB.2.1.1 i j x y (by rw [List.getElem?_append_left (List.getElem?_eq_some_iff.mp h1).1]; exact h1) (by rw [List.getElem?_append_left (List.getElem?_eq_some_iff.mp h2).1]; exact h2) h3, fun k q hk => hB.2.1.2 k q (by rw [List.getElem?_append_left (List.getElem?_eq_some_iff.mp hk).1]; exact hk)⟩ (hd.weaken (fun _ q _ h => hF q.1 h)) (fun i j x y hx hy hxy => (apart i x hx).2 (by rw [hxy]; exact hd.2 j y hy))
  obtain ⟨t2, a1, b1⟩ := kk w1 hw1 T'.heap (locs ++ L) ⟨hP1, hD1, Nat.le_trans hB.2.2.1 (by rw [e1]; exact hz), fun q h1 h2 => by rw [e1, hk q (Nat.lt_of_lt_of_le h1 hB.2.2.1) (fun z => h2 (hF q z))]; exact hB.2.2.2.1 q h1 h2, fun q hq => by
      rcases List.mem_append.mp hq with h | h
      · exact hB.2.2.2.2 q h
      · exact hF _ (hL q h)⟩ T' rfl X'
  exact ⟨t2, stp t2 a1, b1⟩
theorem ri_callN {y : MethodName} {wsy : List Cond} {rm : Room} {bytes : ByteArray} {maxL nL nA mc ms : Nat} {host : String} {As st : List Value} {a : Nat} {Post : va_W → Prop} (hx : p.tables.exec = Jvm.exec) (hb : c.code = cc) (hml : c.maxLocals = nL) (hown : s.vm.findClass own = some m.cls) (hts : ∀ w ∈ Ts, w.before args s = true) (hls : ls.size = nL) (hV : iV D cy A s) {wr wc : va_W} (hB : iB D A s.heap (wr ++ wc) H locs) (hM : iM l y wsy rm D cy (.ref a :: As) wc Post mc ms) (cw0 : va_CN R s args own index y host bytes maxL none wsy rm mc ms nA ∧ y.name = "<init>" ∧ (Cond.instanceMethod y).before args s = true) (hn : As.length = nA) (hst : st = As.reverse ++ .ref a :: rest) (hroom : 2 * (F0 m pc ls st).monitorRoom + (rest.map fun v => v.category).sum ≤ 8) (hdg : decode cc pc = .ok (.invokespecial index, 3)) (hc : cells + mc ≤ R.cells) (hs : slots + ms ≤ R.slots) (kk : ∀ (w1 : va_W), Post w1 → ∀ (H1 : Heap) (locs1 : List Loc), iB D A s.heap (wr ++ w1) H1 locs1 → W p l e R s m args below meth c H1 locs1 (cells + mc) (slots + ms) Q (F0 m (pc + 3) ls (rest))) : W p l e R s m args below meth c H locs cells slots Q (F0 m pc ls (st)) := by
  have hPc : va_P D vwCl wc H := fun k q hk => hB.1 (wr.length + k) q (by rw [List.getElem?_append_right (Nat.le_add_right _ _), Nat.add_sub_cancel_left]; exact hk)
  have hDc : va_D A wc := ⟨fun i j x y h1 h2 h3 => by
      have := hB.2.1.1 (wr.length + i) (wr.length + j) x y (by rw [List.getElem?_append_right (Nat.le_add_right _ _), Nat.add_sub_cancel_left]; exact h1) (by rw [List.getElem?_append_right (Nat.le_add_right _ _), Nat.add_sub_cancel_left]; exact h2) h3
      omega, fun k q hk => hB.2.1.2 (wr.length + k) q (by rw [List.getElem?_append_right (Nat.le_add_right _ _), Nat.add_sub_cancel_left]; exact hk)⟩
  have hPr : va_P D vwCl wr H := fun k q hk => hB.1 k q (by rw [List.getElem?_append_left (List.getElem?_eq_some_iff.mp hk).1]; exact hk)
  have hF : ∀ q, va_A wc H.size q → A q := fun q h => by
    rcases h with ⟨k, e, h⟩ | h
    · exact hDc.2 k (q, e) h
    · exact hV.2.1 q (Nat.le_trans hB.2.2.1 h)
  have apart : ∀ (k : Nat) (q : Nat × va_E), wr[k]? = some q → q.1 < H.size ∧ ¬ va_A wc H.size q.1 := fun k q hq => by
    have hl := (hPr k q hq).lt
    refine ⟨hl, fun h => ?_⟩
    rcases h with ⟨k2, e, h⟩ | h
    · have := hB.2.1.1 k (wr.length + k2) q (q.1, e) (by rw [List.getElem?_append_left (List.getElem?_eq_some_iff.mp hq).1]; exact hq) (by rw [List.getElem?_append_right (Nat.le_add_right _ _), Nat.add_sub_cancel_left]; exact h) rfl
      have := (List.getElem?_eq_some_iff.mp hq).1
      omega
    · omega
  have hr := va_runIN (l := l) (e := e) (below := below) (meth := meth) (H := H) (locs := locs) (cells := cells) (slots := slots) (As := As) (rest := rest) (g := F0 m pc ls st) ⟨hx, hb, hml, hown, hts⟩ (hM H.size) cw0 ⟨fun a U g mk q => ⟨q.1, q.2.1, q.2.2.1, va_K.moved (u := U) (U := U.calling g mk a) (Vm.Alike.refl U.vm) q.2.2.2.1, q.2.2.2.2.1, iEn.same q.2.2.2.2.2 rfl (Vm.Alike.refl U.vm)⟩, fun U hU hW => ⟨rfl, by rw [hU], by rw [hU]; exact hPc, va_K.moved hW.alike hV.1, hDc.weaken (fun _ _ _ _ => trivial), iEn.call hV.2.2 hW⟩⟩ rfl hn hls hst hroom hdg ⟨hc, hs⟩
  intro T hT X
  obtain ⟨v, st₀, t, T', L, h0, X', hL, e1, e2, ⟨⟨hv, w1, hw1, hp, hd⟩, hz, hk⟩, stp⟩ := hr T hT X
  cases hv
  rw [h0] at hz hk
  have hP1 : va_P D vwCl (wr ++ w1) T'.heap := va_P.app (fun k q hq => (hPr k q hq).kept (by rw [e1]; exact hk q.1 (apart k q hq).1 (apart k q hq).2)) (by rw [e1]; exact hp)
  have hD1 : va_D A (wr ++ w1) := va_D.app ⟨fun i j x y h1 h2 h3 => hB.2.1.1 i j x y (by rw [List.getElem?_append_left (List.getElem?_eq_some_iff.mp h1).1]; exact h1) (by rw [List.getElem?_append_left (List.getElem?_eq_some_iff.mp h2).1]; exact h2) h3, fun k q hk => hB.2.1.2 k q (by rw [List.getElem?_append_left (List.getElem?_eq_some_iff.mp hk).1]; exact hk)⟩ (hd.weaken (fun _ q _ h => hF q.1 h)) (fun i j x y hx hy hxy => (apart i x hx).2 (by rw [hxy]; exact hd.2 j y hy))
  obtain ⟨t2, a1, b1⟩ := kk w1 hw1 T'.heap (locs ++ L) ⟨hP1, hD1, Nat.le_trans hB.2.2.1 (by rw [e1]; exact hz), fun q h1 h2 => by rw [e1, hk q (Nat.lt_of_lt_of_le h1 hB.2.2.1) (fun z => h2 (hF q z))]; exact hB.2.2.2.1 q h1 h2, fun q hq => by
      rcases List.mem_append.mp hq with h | h
      · exact hB.2.2.2.2 q h
      · exact hF _ (hL q h)⟩ T' rfl X'
  exact ⟨t2, stp t2 a1, b1⟩
end
theorem ri_met {l : Launch} {y : MethodName} {Ts ws' : List Cond} {rm : Room} {D : va_G} {cy : CY} {av : List Value} {w : va_W} {Post : va_W → Prop} {mc ms : Nat} {cc : ByteArray} {nL : Nat} {ret : Option FieldType} (hy : plainName y.cls = true) (hw : Ts = Cond.code y cc nL ret :: ws') (hn : (lg_sl av).length ≤ nL)
    (body : ∀ (p : Program) (e : Env) (s : State) (m : MethodId) (below : List Frame) (meth : Method) (c : Code) (A : Nat → Prop) (ls : Array Slot), cxB y.cls ws' cc nL ret p s m av.toArray meth c → meth.name = y.name → iV D cy A s → iB D A s.heap w s.heap [] → lv_has ls nL (lv_args 0 av) → W p l e rm s m av.toArray below meth c s.heap [] 0 0 (MQ below (iQ D A Post) av.toArray s mc ms A) (F0 m 0 ls [])) : iM l y Ts rm D cy av w Post mc ms := by
  intro sz
  refine Met.ofW (cc := cc) (maxL := nL) (ret := ret) hy hw ?_
  intro p e s m args below meth c s₁ B hml hv
  obtain ⟨rfl, hsz, hP, hK, hD0, hE⟩ := hv
  subst hsz
  have hD := hD0.self (sz := s.heap.size)
  generalize hAe : va_A w s.heap.size = A at hD ⊢
  have hA : ∀ q : Nat, s.heap.size ≤ q → A q := fun q h => by rw [← hAe]; exact Or.inr h
  have hl := lv_entry av (n := nL) hn
  rw [lg_entry_eq]
  generalize (lg_sl av ++ List.replicate (nL - (lg_sl av).length) Slot.unset).toArray = ls at hl ⊢
  exact body p e s m below meth c A ls ⟨B.exec, B.bytes, hml, findClass_of_methodNamed B.named, fun w h => atoms_spec (ws := Ts) B.pre w (by rw [hw]; exact List.mem_cons_of_mem _ h), B.returns, B.notSynchronized⟩ (name_of_methodNamed B.named B.method).1 ⟨hK, hA, hE⟩ ⟨hP, hD, va_S.rf⟩ hl
theorem ri_vret {p : Program} {l : Launch} {e : Env} {R : Room} {s : State} {m : MethodId} {args : Array Value} {below : List Frame} {meth : Method} {c : Code} {H : Heap} {locs : List Loc} {cc : ByteArray} {pc : Nat} {ls : Array Slot} {D : va_G} {A : Nat → Prop} {w : va_W} {Post : va_W → Prop} {mc ms : Nat} (hx : p.tables.exec = Jvm.exec) (hb : c.code = cc) (hr : meth.sig.returnType = none) (hlocks : meth.locks = false) (hB : iB D A s.heap w H locs) (hp : Post w) (hdg : decode cc pc = .ok (.return_, 1)) : W p l e R s m args below meth c H locs mc ms (MQ below (iQ D A Post) args s mc ms A) (F0 m pc ls []) :=
  W.vret hx hb hr (fun t ht hW => ⟨⟨rfl, w, hp, by rw [ht]; exact hB.1, hB.2.1⟩, hB.2.2.F ht⟩) hB.2.2.2.2 hdg hlocks
theorem pdi_0_0 : parseFieldDescriptor (TX0 0).2.2.1 = some (.array (.object "PlateRings$Plate")) := by decide +kernel
theorem pdi_0_1 : parseFieldDescriptor (TX0 1).2.2.1 = some (.array (.object "PlateRings$Loss")) := by decide +kernel
theorem pdi_0_2 : parseFieldDescriptor (TX0 2).2.2.1 = some (.array .int) := by decide +kernel
theorem pdi_0_3 : parseFieldDescriptor (TX0 3).2.2.1 = some (.array .int) := by decide +kernel
theorem pdi_0_4 : parseFieldDescriptor (TX0 4).2.2.1 = some (.array .int) := by decide +kernel
theorem pdi_0_5 : parseFieldDescriptor (TX0 5).2.2.1 = some (.array .int) := by decide +kernel
theorem pdi_0_6 : parseFieldDescriptor (TX0 6).2.2.1 = some (.object "PlateRings$Spun") := by decide +kernel
theorem pdi_0_7 : parseFieldDescriptor (TX0 7).2.2.1 = some (.object "PlateRings$Row") := by decide +kernel
theorem pdi_0_8 : parseFieldDescriptor (TX0 8).2.2.1 = some .int := by decide +kernel
theorem pdi_0_9 : parseFieldDescriptor (TX0 9).2.2.1 = some .int := by decide +kernel
theorem pdi_0_10 : parseFieldDescriptor (TX0 10).2.2.1 = some .int := by decide +kernel
theorem pdi_0_11 : parseFieldDescriptor (TX0 11).2.2.1 = some .boolean := by decide +kernel
theorem pdi_1_0 : parseFieldDescriptor (TX1 0).2.2.1 = some .int := by decide +kernel
theorem pdi_1_1 : parseFieldDescriptor (TX1 1).2.2.1 = some .int := by decide +kernel
theorem pdi_1_2 : parseFieldDescriptor (TX1 2).2.2.1 = some .int := by decide +kernel
theorem pdi_1_3 : parseFieldDescriptor (TX1 3).2.2.1 = some (.array .int) := by decide +kernel
theorem pdi_1_4 : parseFieldDescriptor (TX1 4).2.2.1 = some (.array .int) := by decide +kernel
theorem pdi_2_0 : parseFieldDescriptor (TX2 0).2.2.1 = some (.object "PlateRings$Bench") := by decide +kernel
theorem pdi_2_1 : parseFieldDescriptor (TX2 1).2.2.1 = some (.array .int) := by decide +kernel
theorem pdi_2_2 : parseFieldDescriptor (TX2 2).2.2.1 = some (.array .int) := by decide +kernel
theorem pdi_2_3 : parseFieldDescriptor (TX2 3).2.2.1 = some .int := by decide +kernel
theorem pdi_2_4 : parseFieldDescriptor (TX2 4).2.2.1 = some .int := by decide +kernel
theorem pdi_2_5 : parseFieldDescriptor (TX2 5).2.2.1 = some .int := by decide +kernel
theorem pdi_2_6 : parseFieldDescriptor (TX2 6).2.2.1 = some .int := by decide +kernel
theorem pdi_2_7 : parseFieldDescriptor (TX2 7).2.2.1 = some .int := by decide +kernel
theorem pdi_2_8 : parseFieldDescriptor (TX2 8).2.2.1 = some .int := by decide +kernel
theorem pdi_2_9 : parseFieldDescriptor (TX2 9).2.2.1 = some .boolean := by decide +kernel
theorem pdi_2_10 : parseFieldDescriptor (TX2 10).2.2.1 = some .boolean := by decide +kernel
theorem pdi_2_11 : parseFieldDescriptor (TX2 11).2.2.1 = some (.object "PlateRings$Loss") := by decide +kernel
theorem pdi_2_12 : parseFieldDescriptor (TX2 12).2.2.1 = some .int := by decide +kernel
theorem pdi_3_0 : parseFieldDescriptor (TX3 0).2.2.1 = some .int := by decide +kernel
theorem pdi_3_1 : parseFieldDescriptor (TX3 1).2.2.1 = some .int := by decide +kernel
theorem pdi_3_2 : parseFieldDescriptor (TX3 2).2.2.1 = some .int := by decide +kernel
theorem pdi_3_3 : parseFieldDescriptor (TX3 3).2.2.1 = some .int := by decide +kernel
theorem pdi_3_4 : parseFieldDescriptor (TX3 4).2.2.1 = some .int := by decide +kernel
theorem pdi_4_0 : parseFieldDescriptor (TX4 0).2.2.1 = some (.array .int) := by decide +kernel
theorem pdi_4_1 : parseFieldDescriptor (TX4 1).2.2.1 = some .int := by decide +kernel
theorem pdi_4_2 : parseFieldDescriptor (TX4 2).2.2.1 = some .int := by decide +kernel
theorem pdi_5_0 : parseFieldDescriptor (TX5 0).2.2.1 = some .boolean := by decide +kernel
theorem pdi_5_1 : parseFieldDescriptor (TX5 1).2.2.1 = some .int := by decide +kernel
theorem pdi_5_2 : parseFieldDescriptor (TX5 2).2.2.1 = some .int := by decide +kernel
theorem pdi_5_3 : parseFieldDescriptor (TX5 3).2.2.1 = some .int := by decide +kernel
theorem pdi_5_4 : parseFieldDescriptor (TX5 4).2.2.1 = some .int := by decide +kernel
theorem pdi_5_5 : parseFieldDescriptor (TX5 5).2.2.1 = some .int := by decide +kernel
theorem pdi_5_6 : parseFieldDescriptor (TX5 6).2.2.1 = some .int := by decide +kernel
theorem pdi_5_7 : parseFieldDescriptor (TX5 7).2.2.1 = some .int := by decide +kernel
theorem pdi_5_8 : parseFieldDescriptor (TX5 8).2.2.1 = some .long := by decide +kernel
theorem pdi_5_9 : parseFieldDescriptor (TX5 9).2.2.1 = some .int := by decide +kernel
theorem pdi_5_10 : parseFieldDescriptor (TX5 10).2.2.1 = some (.array .int) := by decide +kernel
theorem pdi_5_11 : parseFieldDescriptor (TX5 11).2.2.1 = some (.array .int) := by decide +kernel
theorem pdi_5_12 : parseFieldDescriptor (TX5 12).2.2.1 = some (.array .int) := by decide +kernel
theorem pdi_6_0 : parseFieldDescriptor (TX6 0).2.2.1 = some (.array .int) := by decide +kernel
theorem pdi_6_1 : parseFieldDescriptor (TX6 1).2.2.1 = some (.array .int) := by decide +kernel
theorem pdi_6_2 : parseFieldDescriptor (TX6 2).2.2.1 = some .int := by decide +kernel
theorem pdi_6_3 : parseFieldDescriptor (TX6 3).2.2.1 = some .int := by decide +kernel
theorem pdi_6_4 : parseFieldDescriptor (TX6 4).2.2.1 = some .int := by decide +kernel
theorem pdi_6_5 : parseFieldDescriptor (TX6 5).2.2.1 = some .int := by decide +kernel
theorem pdi_7_0 : parseFieldDescriptor (TX7 0).2.2.1 = some (.object "PlateRings$Text") := by decide +kernel
theorem pdi_7_1 : parseFieldDescriptor (TX7 1).2.2.1 = some (.array .int) := by decide +kernel
theorem pdi_7_2 : parseFieldDescriptor (TX7 2).2.2.1 = some (.object "PlateRings$Bench") := by decide +kernel
theorem pdi_7_3 : parseFieldDescriptor (TX7 3).2.2.1 = some (.object "PlateRings$Bench") := by decide +kernel
theorem pdi_7_4 : parseFieldDescriptor (TX7 4).2.2.1 = some (.object "PlateRings$Mind") := by decide +kernel
theorem pdi_7_5 : parseFieldDescriptor (TX7 5).2.2.1 = some .boolean := by decide +kernel
theorem pdi_8_0 : parseFieldDescriptor (TX8 0).2.2.1 = some (.array .int) := by decide +kernel
theorem pdi_8_1 : parseFieldDescriptor (TX8 1).2.2.1 = some (.array .int) := by decide +kernel
theorem pdi_8_2 : parseFieldDescriptor (TX8 2).2.2.1 = some (.array .int) := by decide +kernel
theorem pdi_8_3 : parseFieldDescriptor (TX8 3).2.2.1 = some (.array .int) := by decide +kernel
theorem pdi_8_4 : parseFieldDescriptor (TX8 4).2.2.1 = some (.array .int) := by decide +kernel
theorem pdi_8_5 : parseFieldDescriptor (TX8 5).2.2.1 = some (.array .int) := by decide +kernel
theorem pdi_8_6 : parseFieldDescriptor (TX8 6).2.2.1 = some (.array .int) := by decide +kernel
theorem pdi_8_7 : parseFieldDescriptor (TX8 7).2.2.1 = some (.array .int) := by decide +kernel
theorem pdi_8_8 : parseFieldDescriptor (TX8 8).2.2.1 = some (.array .int) := by decide +kernel
theorem pdi_8_9 : parseFieldDescriptor (TX8 9).2.2.1 = some .int := by decide +kernel
theorem pdi_8_10 : parseFieldDescriptor (TX8 10).2.2.1 = some .int := by decide +kernel
theorem pdi_8_11 : parseFieldDescriptor (TX8 11).2.2.1 = some .int := by decide +kernel
theorem pdi_8_12 : parseFieldDescriptor (TX8 12).2.2.1 = some .int := by decide +kernel
theorem pdi_8_13 : parseFieldDescriptor (TX8 13).2.2.1 = some (.array .int) := by decide +kernel
theorem pdi_8_14 : parseFieldDescriptor (TX8 14).2.2.1 = some (.array .int) := by decide +kernel
theorem pdi_8_15 : parseFieldDescriptor (TX8 15).2.2.1 = some (.array .int) := by decide +kernel
theorem pdi_8_16 : parseFieldDescriptor (TX8 16).2.2.1 = some (.array .int) := by decide +kernel
theorem pdi_8_17 : parseFieldDescriptor (TX8 17).2.2.1 = some (.array .int) := by decide +kernel
theorem pdi_8_18 : parseFieldDescriptor (TX8 18).2.2.1 = some (.array .int) := by decide +kernel
theorem pdi_8_19 : parseFieldDescriptor (TX8 19).2.2.1 = some (.array .int) := by decide +kernel
theorem pdi_8_20 : parseFieldDescriptor (TX8 20).2.2.1 = some (.array .int) := by decide +kernel
theorem pdi_8_21 : parseFieldDescriptor (TX8 21).2.2.1 = some .int := by decide +kernel
theorem pdi_8_22 : parseFieldDescriptor (TX8 22).2.2.1 = some .int := by decide +kernel
theorem pdi_8_23 : parseFieldDescriptor (TX8 23).2.2.1 = some .int := by decide +kernel
theorem pdi_8_24 : parseFieldDescriptor (TX8 24).2.2.1 = some .int := by decide +kernel
theorem pdi_8_25 : parseFieldDescriptor (TX8 25).2.2.1 = some .int := by decide +kernel
theorem pdi_8_26 : parseFieldDescriptor (TX8 26).2.2.1 = some .int := by decide +kernel
theorem pdi_8_27 : parseFieldDescriptor (TX8 27).2.2.1 = some .int := by decide +kernel
theorem pdi_8_28 : parseFieldDescriptor (TX8 28).2.2.1 = some .int := by decide +kernel
theorem pdi_8_29 : parseFieldDescriptor (TX8 29).2.2.1 = some .int := by decide +kernel
theorem pdi_8_30 : parseFieldDescriptor (TX8 30).2.2.1 = some .int := by decide +kernel
theorem pdi_8_31 : parseFieldDescriptor (TX8 31).2.2.1 = some .int := by decide +kernel
theorem pdi_8_32 : parseFieldDescriptor (TX8 32).2.2.1 = some .int := by decide +kernel
theorem pdi_8_33 : parseFieldDescriptor (TX8 33).2.2.1 = some (.array .int) := by decide +kernel
theorem pdi_8_34 : parseFieldDescriptor (TX8 34).2.2.1 = some .boolean := by decide +kernel
theorem pdi_8_35 : parseFieldDescriptor (TX8 35).2.2.1 = some .int := by decide +kernel
theorem pdi_8_36 : parseFieldDescriptor (TX8 36).2.2.1 = some (.array .int) := by decide +kernel
theorem pdi_8_37 : parseFieldDescriptor (TX8 37).2.2.1 = some (.array .int) := by decide +kernel
theorem pdi_8_38 : parseFieldDescriptor (TX8 38).2.2.1 = some .int := by decide +kernel
theorem pdi_8_39 : parseFieldDescriptor (TX8 39).2.2.1 = some .int := by decide +kernel
theorem pdi_8_40 : parseFieldDescriptor (TX8 40).2.2.1 = some .int := by decide +kernel
theorem pdi_8_41 : parseFieldDescriptor (TX8 41).2.2.1 = some .int := by decide +kernel
theorem pdi_8_42 : parseFieldDescriptor (TX8 42).2.2.1 = some .int := by decide +kernel
theorem pdi_8_43 : parseFieldDescriptor (TX8 43).2.2.1 = some .int := by decide +kernel
theorem pdi_8_44 : parseFieldDescriptor (TX8 44).2.2.1 = some .int := by decide +kernel
theorem pdi_8_45 : parseFieldDescriptor (TX8 45).2.2.1 = some .int := by decide +kernel
theorem pdi_8_46 : parseFieldDescriptor (TX8 46).2.2.1 = some .long := by decide +kernel
theorem pdi_8_47 : parseFieldDescriptor (TX8 47).2.2.1 = some (.array .int) := by decide +kernel
theorem pdi_8_48 : parseFieldDescriptor (TX8 48).2.2.1 = some .int := by decide +kernel
theorem pdi_8_49 : parseFieldDescriptor (TX8 49).2.2.1 = some .int := by decide +kernel
theorem pdi_8_50 : parseFieldDescriptor (TX8 50).2.2.1 = some (.array .int) := by decide +kernel
theorem pdi_8_51 : parseFieldDescriptor (TX8 51).2.2.1 = some (.array .int) := by decide +kernel
theorem pdi_8_52 : parseFieldDescriptor (TX8 52).2.2.1 = some .int := by decide +kernel
theorem pdi_8_53 : parseFieldDescriptor (TX8 53).2.2.1 = some (.array .int) := by decide +kernel
theorem pdi_8_54 : parseFieldDescriptor (TX8 54).2.2.1 = some .boolean := by decide +kernel
theorem pdi_8_55 : parseFieldDescriptor (TX8 55).2.2.1 = some .boolean := by decide +kernel
theorem pdi_8_56 : parseFieldDescriptor (TX8 56).2.2.1 = some .int := by decide +kernel
theorem pdi_8_57 : parseFieldDescriptor (TX8 57).2.2.1 = some .long := by decide +kernel
theorem dfl_0 : ∀ j, j < 12 → defaultValue (tyX0 j) = vp_V [.null, .null, .null, .null, .null, .null, .null, .null, .int 0, .int 0, .int 0, .int 0] j := by
  intro j hj
  rcases (show j = 0 ∨ j = 1 ∨ j = 2 ∨ j = 3 ∨ j = 4 ∨ j = 5 ∨ j = 6 ∨ j = 7 ∨ j = 8 ∨ j = 9 ∨ j = 10 ∨ j = 11 by omega) with rfl | rfl | rfl | rfl | rfl | rfl | rfl | rfl | rfl | rfl | rfl | rfl <;> rfl
theorem dfl_1 : ∀ j, j < 5 → defaultValue (tyX1 j) = vp_V [.int 0, .int 0, .int 0, .null, .null] j := by
  intro j hj
  rcases (show j = 0 ∨ j = 1 ∨ j = 2 ∨ j = 3 ∨ j = 4 by omega) with rfl | rfl | rfl | rfl | rfl <;> rfl
theorem dfl_2 : ∀ j, j < 13 → defaultValue (tyX2 j) = vp_V [.null, .null, .null, .int 0, .int 0, .int 0, .int 0, .int 0, .int 0, .int 0, .int 0, .null, .int 0] j := by
  intro j hj
  rcases (show j = 0 ∨ j = 1 ∨ j = 2 ∨ j = 3 ∨ j = 4 ∨ j = 5 ∨ j = 6 ∨ j = 7 ∨ j = 8 ∨ j = 9 ∨ j = 10 ∨ j = 11 ∨ j = 12 by omega) with rfl | rfl | rfl | rfl | rfl | rfl | rfl | rfl | rfl | rfl | rfl | rfl | rfl <;> rfl
theorem dfl_3 : ∀ j, j < 5 → defaultValue (tyX3 j) = vp_V [.int 0, .int 0, .int 0, .int 0, .int 0] j := by
  intro j hj
  rcases (show j = 0 ∨ j = 1 ∨ j = 2 ∨ j = 3 ∨ j = 4 by omega) with rfl | rfl | rfl | rfl | rfl <;> rfl
theorem dfl_4 : ∀ j, j < 3 → defaultValue (tyX4 j) = vp_V [.null, .int 0, .int 0] j := by
  intro j hj
  rcases (show j = 0 ∨ j = 1 ∨ j = 2 by omega) with rfl | rfl | rfl <;> rfl
theorem dfl_5 : ∀ j, j < 13 → defaultValue (tyX5 j) = vp_V [.int 0, .int 0, .int 0, .int 0, .int 0, .int 0, .int 0, .int 0, .long 0, .int 0, .null, .null, .null] j := by
  intro j hj
  rcases (show j = 0 ∨ j = 1 ∨ j = 2 ∨ j = 3 ∨ j = 4 ∨ j = 5 ∨ j = 6 ∨ j = 7 ∨ j = 8 ∨ j = 9 ∨ j = 10 ∨ j = 11 ∨ j = 12 by omega) with rfl | rfl | rfl | rfl | rfl | rfl | rfl | rfl | rfl | rfl | rfl | rfl | rfl <;> rfl
theorem dfl_6 : ∀ j, j < 6 → defaultValue (tyX6 j) = vp_V [.null, .null, .int 0, .int 0, .int 0, .int 0] j := by
  intro j hj
  rcases (show j = 0 ∨ j = 1 ∨ j = 2 ∨ j = 3 ∨ j = 4 ∨ j = 5 by omega) with rfl | rfl | rfl | rfl | rfl | rfl <;> rfl
theorem dfl_7 : ∀ j, j < 6 → defaultValue (tyX7 j) = vp_V [.null, .null, .null, .null, .null, .int 0] j := by
  intro j hj
  rcases (show j = 0 ∨ j = 1 ∨ j = 2 ∨ j = 3 ∨ j = 4 ∨ j = 5 by omega) with rfl | rfl | rfl | rfl | rfl | rfl <;> rfl
theorem dfl_8 : ∀ j, j < 58 → defaultValue (tyX8 j) = vp_V [.null, .null, .null, .null, .null, .null, .null, .null, .null, .int 0, .int 0, .int 0, .int 0, .null, .null, .null, .null, .null, .null, .null, .null, .int 0, .int 0, .int 0, .int 0, .int 0, .int 0, .int 0, .int 0, .int 0, .int 0, .int 0, .int 0, .null, .int 0, .int 0, .null, .null, .int 0, .int 0, .int 0, .int 0, .int 0, .int 0, .int 0, .int 0, .long 0, .null, .int 0, .int 0, .null, .null, .int 0, .null, .int 0, .int 0, .int 0, .long 0] j := by
  intro j hj
  rcases (show j = 0 ∨ j = 1 ∨ j = 2 ∨ j = 3 ∨ j = 4 ∨ j = 5 ∨ j = 6 ∨ j = 7 ∨ j = 8 ∨ j = 9 ∨ j = 10 ∨ j = 11 ∨ j = 12 ∨ j = 13 ∨ j = 14 ∨ j = 15 ∨ j = 16 ∨ j = 17 ∨ j = 18 ∨ j = 19 ∨ j = 20 ∨ j = 21 ∨ j = 22 ∨ j = 23 ∨ j = 24 ∨ j = 25 ∨ j = 26 ∨ j = 27 ∨ j = 28 ∨ j = 29 ∨ j = 30 ∨ j = 31 ∨ j = 32 ∨ j = 33 ∨ j = 34 ∨ j = 35 ∨ j = 36 ∨ j = 37 ∨ j = 38 ∨ j = 39 ∨ j = 40 ∨ j = 41 ∨ j = 42 ∨ j = 43 ∨ j = 44 ∨ j = 45 ∨ j = 46 ∨ j = 47 ∨ j = 48 ∨ j = 49 ∨ j = 50 ∨ j = 51 ∨ j = 52 ∨ j = 53 ∨ j = 54 ∨ j = 55 ∨ j = 56 ∨ j = 57 by omega) with rfl | rfl | rfl | rfl | rfl | rfl | rfl | rfl | rfl | rfl | rfl | rfl | rfl | rfl | rfl | rfl | rfl | rfl | rfl | rfl | rfl | rfl | rfl | rfl | rfl | rfl | rfl | rfl | rfl | rfl | rfl | rfl | rfl | rfl | rfl | rfl | rfl | rfl | rfl | rfl | rfl | rfl | rfl | rfl | rfl | rfl | rfl | rfl | rfl | rfl | rfl | rfl | rfl | rfl | rfl | rfl | rfl | rfl <;> rfl
