section
/-! a LOSS made by both -/
theorem cwf_cpp {σ : CS} (h : cwf σ) {q : Nat} (hq : q < σ.2.2.2.2.2) (a k : Nat) : cwf (cpp σ a k (some q)) := fun a' x q' h' => by
  rw [cpp_3] at h'
  show q' < σ.2.2.2.2.2
  by_cases e : a' = a ∧ x = k
  · rw [if_pos e] at h'; cases h'; exact hq
  · rw [if_neg e] at h'; exact h a' x q' h'
/-- cells below n0 as they were (but the text's own), m new ones -/
def NS (γ : CS) (n0 m : Nat) (σ : CS) : Prop := σ.2.2.2.2.2 = n0 + m ∧ σ.2.1 = γ.2.1 ∧ (∀ a, a < n0 → a ≠ 1 → a ≠ 3 → σ.1 a = γ.1 a) ∧ (∀ a, a < n0 → σ.2.2.1 a = γ.2.2.1 a) ∧ (∀ a, a < n0 → σ.2.2.2.1 a = γ.2.2.2.1 a ∧ σ.2.2.2.2.1 a = γ.2.2.2.2.1 a) ∧ cwf σ
theorem NS_0 {γ σ : CS} {n0 : Nat} (h : γ.2.2.2.2.2 = n0) (hX : yTX γ σ) (hw : cwf γ) : NS γ n0 0 σ := ⟨by rw [hX.1]; exact h, by rw [hX.1], fun a _ x y => hX.2.1 a x y, fun a _ => by rw [hX.1], fun a _ => by rw [hX.1]; exact ⟨rfl, rfl⟩, TX_w hX hw⟩
theorem NS_cnw {γ σ : CS} {n0 m : Nat} (H : NS γ n0 m σ) (k l : Nat) (i : Nat → Int32) : NS γ n0 (m + 1) (cnw σ k l i (fun _ => none)) := by
  obtain ⟨h1, h2, h3, h4, h5, h6⟩ := H
  refine ⟨?_, h2, fun a x y z => (va_up_ne _ _ (by omega)).trans (h3 a x y z), fun a x => (va_up_ne _ _ (by omega)).trans (h4 a x), fun a x => ⟨(va_up_ne _ _ (by omega)).trans (h5 a x).1, (va_up_ne _ _ (by omega)).trans (h5 a x).2⟩, cwf_new h6 _ _ _⟩
  show σ.2.2.2.2.2 + 1 = n0 + (m + 1)
  omega
theorem NS_cp {γ σ : CS} {n0 m : Nat} (H : NS γ n0 m σ) {a : Nat} (ha : n0 ≤ a ∨ a = 1) (k : Nat) (v : Int32) : NS γ n0 m (cp σ a k v) := by
  obtain ⟨h1, h2, h3, h4, h5, h6⟩ := H
  exact ⟨h1, h2, fun b x y z => (cp_ne _ _ _ _ (by omega)).trans (h3 b x y z), h4, h5, h6⟩
theorem NS_cpr {γ σ : CS} {n0 m : Nat} (H : NS γ n0 m σ) {a : Nat} (ha : n0 ≤ a) (f : Nat → Int32) : NS γ n0 m (cpr σ a f) := by
  obtain ⟨h1, h2, h3, h4, h5, h6⟩ := H
  exact ⟨h1, h2, fun b x y z => (cpr_ne _ _ _ (by omega)).trans (h3 b x y z), h4, h5, h6⟩
theorem NS_cpp {γ σ : CS} {n0 m : Nat} (H : NS γ n0 m σ) {a : Nat} (ha : n0 ≤ a) (k : Nat) {q : Nat} (hq : q < n0 + m) : NS γ n0 m (cpp σ a k (some q)) := by
  obtain ⟨h1, h2, h3, h4, h5, h6⟩ := H
  exact ⟨h1, h2, h3, fun b x => (va_up_ne _ _ (by omega)).trans (h4 b x), h5, cwf_cpp h6 (by omega) _ _⟩
theorem NS_PO {γ σ : CS} {n0 m : Nat} (h : γ.2.2.2.2.2 = n0) (H : NS γ n0 m σ) : PO γ σ := fun q k hq => by
  obtain ⟨q1, q2, q3⟩ := pk_s hq
  obtain ⟨h1, h2, h3, h4, h5, h6⟩ := H
  have q4 : q < n0 := by omega
  refine ⟨?_, (h5 q q4).2, h4 q q4, fun _ => h3 q q4 (by omega) (by omega)⟩
  unfold pk
  simp only [Bool.and_eq_true, decide_eq_true_eq]
  exact ⟨⟨q1, by omega⟩, (h5 q q4).1.trans q3⟩
def iL (σ : CS) (q q5 : Nat) (x1 x2 x3 : Int32) : CS := cpp (cnw (cpp (cp (cp (cp σ q 0 x1) q 1 x2) q 2 x3) q 3 (some q5)) 9 20 (fun _ => 0) (fun _ => none)) q 4 (some σ.2.2.2.2.2)
theorem c_initL (n : Nat) {σ : CS} {q q5 : Nat} (hk : pk σ q 1 = true) (hw : cwf σ) (h5 : q5 < σ.2.2.2.2.2) (x1 x2 x3 : Int32) : fc_X1_init n σ q x1 x2 x3 q5 = some (0, iL σ q q5 x1 x2 x3) := by
  have h1 : cwf (cpp (cp (cp (cp σ q 0 x1) q 1 x2) q 2 x3) q 3 (some q5)) := cwf_cpp (σ := cp (cp (cp σ q 0 x1) q 1 x2) q 2 x3) hw h5 _ _
  have hk2 : pk (cpp (cp (cp (cp σ q 0 x1) q 1 x2) q 2 x3) q 3 (some q5)) q 1 = true := hk
  have hk3 := (PO_cnw (cpp (cp (cp (cp σ q 0 x1) q 1 x2) q 2 x3) q 3 (some q5)) 9 20 (fun _ => 0) (fun _ => none) q 1 hk2).1
  unfold fc_X1_init
  exact ck_g hk (sq_g (ck_g hk (sq_g (ck_g hk (sq_g (ck_g hk (sq_g ((ckp_t h1).trans (ck_g (dec_t (pk_s hk).2.1) (ck_g (dec_t h5) (sq_g (sq_g (ck_g hk3 (sq_g rfl)))))))))))))) 
/-- a new loss: q the object, its law at q - 1, its stack at q + 1 -/
def nL (γ : CS) (x1 x2 x3 : Int32) (q5 : Nat) : CS := iL (cnw (cp γ 1 2 0) 1 0 (fun _ => 0) (fun _ => none)) γ.2.2.2.2.2 q5 x1 x2 x3
theorem nL_f {γ : CS} {n1 q5 : Nat} (h1 : γ.2.2.2.2.2 = n1) (h34 : 34 ≤ n1) (hw : cwf γ) (h5 : q5 < n1) (x1 x2 x3 : Int32) : NS γ n1 2 (nL γ x1 x2 x3 q5) ∧ ((nL γ x1 x2 x3 q5).1 n1 0 = x1 ∧ (nL γ x1 x2 x3 q5).1 n1 1 = x2 ∧ (nL γ x1 x2 x3 q5).1 n1 2 = x3) ∧ (nL γ x1 x2 x3 q5).2.2.1 n1 3 = some q5 ∧ (nL γ x1 x2 x3 q5).2.2.1 n1 4 = some (n1 + 1) ∧ pk (nL γ x1 x2 x3 q5) n1 1 = true ∧ pk (nL γ x1 x2 x3 q5) (n1 + 1) 9 = true ∧ (nL γ x1 x2 x3 q5).2.2.2.2.1 n1 = 0 ∧ (nL γ x1 x2 x3 q5).2.2.2.2.1 (n1 + 1) = 20 ∧ (nL γ x1 x2 x3 q5).1 1 2 = 0 := by
  subst h1
  obtain ⟨n1, e1⟩ : ∃ z, z = γ.2.2.2.2.2 := ⟨_, rfl⟩
  rw [← e1] at h34 h5 ⊢
  have hN : NS γ n1 2 (nL γ x1 x2 x3 q5) := by
    have k0 : NS γ n1 0 γ := NS_0 e1.symm (yTX.rf γ) hw
    have k1 := NS_cp k0 (a := 1) (Or.inr rfl) 2 0
    have k2 := NS_cnw k1 1 0 (fun _ => 0)
    have k3 := NS_cp k2 (a := n1) (Or.inl (Nat.le_refl _)) 0 x1
    have k4 := NS_cp k3 (a := n1) (Or.inl (Nat.le_refl _)) 1 x2
    have k5 := NS_cp k4 (a := n1) (Or.inl (Nat.le_refl _)) 2 x3
    have k6 := NS_cpp k5 (a := n1) (Nat.le_refl _) 3 (q := q5) (by omega)
    have k7 := NS_cnw k6 9 20 (fun _ => 0)
    have k8 := NS_cpp k7 (a := n1) (Nat.le_refl _) 4 (q := n1 + 1) (by omega)
    unfold nL iL
    rw [← e1]
    have e2 : (cnw (cp γ 1 2 0) 1 0 (fun _ => 0) (fun _ => none)).2.2.2.2.2 = n1 + 1 := by rw [e1]; rfl
    rw [e2]
    exact k8
  have hI : (nL γ x1 x2 x3 q5).1 = va_up (cp (cp (cp (cnw (cp γ 1 2 0) 1 0 (fun _ => 0) (fun _ => none)) n1 0 x1) n1 1 x2) n1 2 x3).1 (n1 + 1) (fun _ => 0) := by rw [e1]; rfl
  have hP : (nL γ x1 x2 x3 q5).2.2.1 = (cpp (cnw (cpp (cp (cp (cp (cnw (cp γ 1 2 0) 1 0 (fun _ => 0) (fun _ => none)) n1 0 x1) n1 1 x2) n1 2 x3) n1 3 (some q5)) 9 20 (fun _ => 0) (fun _ => none)) n1 4 (some (n1 + 1))).2.2.1 := by rw [e1]; rfl
  have hK : (nL γ x1 x2 x3 q5).2.2.2.1 = va_up (va_up γ.2.2.2.1 n1 1) (n1 + 1) 9 := by rw [e1]; rfl
  have hNn : (nL γ x1 x2 x3 q5).2.2.2.2.1 = va_up (va_up γ.2.2.2.2.1 n1 0) (n1 + 1) 20 := by rw [e1]; rfl
  have hn : (nL γ x1 x2 x3 q5).2.2.2.2.2 = n1 + 2 := hN.1
  have hne : n1 ≠ n1 + 1 := by omega
  refine ⟨hN, ⟨?_, ?_, ?_⟩, ?_, ?_, ?_, ?_, ?_, ?_, ?_⟩
  · rw [hI, va_up_ne _ _ hne]; simp [cp_1]
  · rw [hI, va_up_ne _ _ hne]; simp [cp_1]
  · rw [hI, va_up_ne _ _ hne]; simp [cp_1]
  · rw [hP, cpp_3, if_neg (by omega)]
    show va_up (cpp (cp (cp (cp (cnw (cp γ 1 2 0) 1 0 (fun _ => 0) (fun _ => none)) n1 0 x1) n1 1 x2) n1 2 x3) n1 3 (some q5)).2.2.1 (γ.2.2.2.2.2 + 1) (fun _ => none) n1 3 = _
    rw [va_up_ne _ _ (by omega), cpp_3, if_pos ⟨rfl, rfl⟩]
  · rw [hP, cpp_3, if_pos ⟨rfl, rfl⟩]
  · unfold pk
    simp only [Bool.and_eq_true, decide_eq_true_eq]
    exact ⟨⟨h34, by rw [hn]; omega⟩, by rw [hK, va_up_ne _ _ hne]; simp [va_up]⟩
  · unfold pk
    simp only [Bool.and_eq_true, decide_eq_true_eq]
    exact ⟨⟨by omega, by rw [hn]; omega⟩, by rw [hK]; simp [va_up]⟩
  · rw [hNn, va_up_ne _ _ hne]; simp [va_up]
  · rw [hNn]; simp [va_up]
  · rw [hI, va_up_ne _ _ (by omega), cp_ne _ _ _ _ (by omega), cp_ne _ _ _ _ (by omega), cp_ne _ _ _ _ (by omega)]
    show va_up (cp γ 1 2 0).1 γ.2.2.2.2.2 _ 1 2 = _
    rw [va_up_ne _ _ (by omega), cp_1, if_pos ⟨rfl, rfl⟩]
theorem c_82 (n : Nat) {γ γ2 : CS} {n0 nl : Nat} (h0 : γ.2.2.2.2.2 = n0) (h1 : γ2.2.2.2.2.2 = n0 + 1) (h34 : 34 ≤ n0) (hw : cwf γ2) (hr : fc_X6_readLaw n γ = some (some n0, γ2)) (hnl : nl ≤ 7) (e9 : γ2.1 5 9 = nI nl) (x1 x2 x3 : Int32) : bc_X7_loss_82 n γ x1 x2 x3 = some (nI nl, cp (cpp (nL γ2 x1 x2 x3 n0) 7 nl (some (n0 + 1))) 5 9 (nI (nl + 1))) := by
  obtain ⟨f1, f2, f3, f4, f5, f6, f7, f8, f9⟩ := nL_f h1 (by omega) hw (q5 := n0) (by omega) x1 x2 x3
  have hw1 : cwf (cp γ2 1 2 0) := hw
  have hn1 : (cp γ2 1 2 0).2.2.2.2.2 = n0 + 1 := h1
  have hk := pk_new (cp γ2 1 2 0) (by rw [hn1]; omega) 1 0 (fun _ => 0) (fun _ => none)
  have e59 : (nL γ2 x1 x2 x3 n0).1 5 9 = nI nl := by rw [f1.2.2.1 5 (by omega) (by decide) (by decide)]; exact e9
  have hadd : fc_X0_addLoss n (nL γ2 x1 x2 x3 n0) (n0 + 1) = some (nI nl, cp (cpp (nL γ2 x1 x2 x3 n0) 7 nl (some (n0 + 1))) 5 9 (nI (nl + 1))) := by
    unfold fc_X0_addLoss
    refine sq_r (x1 := nI nl) e59 (if_f (nI_pos (by omega)) (if_f (nI_ge (b := 8) (by omega) (by omega)) (ck_g f5 (ck_g (ib_nI (by omega) (by omega)) (sq_r (x1 := cpp (nL γ2 x1 x2 x3 n0) 7 nl (some (n0 + 1))) (by rw [nI_clamp (by omega)]) (sq_r (x1 := cp (cpp (nL γ2 x1 x2 x3 n0) 7 nl (some (n0 + 1))) 5 9 (nI (nl + 1))) (by rw [cpp_1, e59, nI_1]) rfl))))))
  unfold bc_X7_loss_82
  refine bd_g hr (ck_g (dec_t (by rw [h0, h1]; omega)) (oc_gs rfl (sq_g ((ckp_t hw1).trans (ck_g (dec_t (by rw [hn1]; omega)) (sq_r (x1 := n0 + 1) hn1 (sq_g (bd_g (a := 0) (b := nL γ2 x1 x2 x3 n0) ?_ (ck_g (dec_t ?_) (ck_g (dec_t ?_) (ck_g (dec_t ?_) (bd_g hadd (ck_g (dec_t (Nat.le_refl _)) rfl)))))))))))))
  · unfold nL
    rw [h1]
    rw [hn1] at hk
    exact c_initL n hk (cwf_new hw1 _ _ _) (by show n0 < γ2.2.2.2.2.2 + 1; rw [h1]; omega) _ _ _
  · show γ2.2.2.2.2.2 + 1 ≤ _
    rw [h1, f1.1]; omega
  · show n0 < γ2.2.2.2.2.2 + 1
    rw [h1]; omega
  · show n0 + 1 < γ2.2.2.2.2.2 + 1
    rw [h1]; omega
theorem lwN_f {γ γ1 : CS} {n0 c : Nat} (h0 : γ.2.2.2.2.2 = n0) (h34 : 34 ≤ n0) (hw : cwf γ) (hX : yTX γ γ1) {cs : List Int32} (hc : cs.length = c) (h3 : ∀ k, k < cs.length → γ1.1 3 k = cs.getD k 0) : NS γ n0 1 (lwN γ1 c) ∧ pk (lwN γ1 c) n0 9 = true ∧ (lwN γ1 c).2.2.2.2.1 n0 = c ∧ ∀ k, k < cs.length → (lwN γ1 c).1 n0 k = cs.getD k 0 := by
  have n1 : γ1.2.2.2.2.2 = n0 := (TX_n hX).trans h0
  have k0 : NS γ n0 0 γ1 := NS_0 h0 hX hw
  have k1 := NS_cnw k0 9 c (fun _ => 0)
  refine ⟨?_, ?_, ?_, fun k hk => ?_⟩
  · unfold lwN
    exact NS_cpr k1 (by omega) _
  · have := pk_new γ1 (by omega) 9 c (fun _ => 0) (fun _ => none)
    rw [n1] at this
    exact this
  · show va_up γ1.2.2.2.2.1 γ1.2.2.2.2.2 c n0 = c
    rw [n1]; simp [va_up]
  · unfold lwN
    rw [n1, cpr_row]
    unfold va_cpy
    rw [if_pos ⟨Nat.zero_le _, by omega⟩, show 0 + (k - 0) = k by omega]
    show va_up γ1.1 γ1.2.2.2.2.2 _ 3 k = _
    rw [va_up_ne _ _ (by omega)]
    exact h3 k hk
end
