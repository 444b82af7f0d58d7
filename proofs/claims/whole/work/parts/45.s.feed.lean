/-! feed -/
theorem bv_byte (x : BitVec 64) (s : Nat) (hs : s ≤ 56) : (x >>> s) &&& 255#64 = (x.sshiftRight s) &&& 255#64 := by
  apply BitVec.eq_of_getLsbD_eq
  intro i hi
  rw [BitVec.getLsbD_and, BitVec.getLsbD_and]
  by_cases h8 : i < 8
  · congr 1
    rw [BitVec.getLsbD_ushiftRight, BitVec.getLsbD_sshiftRight]
    have h1 : decide (64 ≤ i) = false := by simp; omega
    have h2 : s + i < 64 := by omega
    simp [h1, h2]
  · have h2 : (255#64).getLsbD i = false := by
      rw [BitVec.getLsbD_ofNat]
      have : Nat.testBit 255 i = false := by
        rw [show (255 : Nat) = 2 ^ 8 - 1 by decide, Nat.testBit_two_pow_sub_one]
        simp; omega
      simp [this]
    rw [h2, Bool.and_false, Bool.and_false]
theorem by_val (y : Int64) : ∃ t : Nat, t ≤ 255 ∧ Int64.toInt32 (y &&& 255) = nI t := by
  refine ⟨y.toBitVec.toNat % 256, by omega, ?_⟩
  apply Int32.toBitVec_inj.mp
  rw [Int64.toBitVec_toInt32, Int64.toBitVec_and]
  show (y.toBitVec &&& 255#64).signExtend 32 = BitVec.ofNat 32 (y.toBitVec.toNat % 256)
  rw [BitVec.signExtend_eq_setWidth_of_le _ (by omega)]
  apply BitVec.eq_of_toNat_eq
  rw [BitVec.toNat_setWidth, BitVec.toNat_and, BitVec.toNat_ofNat]
  congr 1
  show y.toBitVec.toNat &&& 255 = _
  rw [show (255 : Nat) = 2 ^ 8 - 1 by decide, Nat.and_two_pow_sub_one_eq_mod]
theorem by_both (x : Int64) {j : Nat} (hj : j < 8) : (((Int64.toUInt64 x >>> (Int64.toUInt64 (Int32.toInt64 (8 * nI j)) &&& Int64.toUInt64 63)).toInt64) &&& 255 : Int64) = ((x >>> (Int32.toInt64 (8 * nI j) &&& 63)) &&& 255 : Int64) := by
  apply Int64.toBitVec_inj.mp
  rw [Int64.toBitVec_and, Int64.toBitVec_and]
  have key : ∀ s : Nat, s ≤ 56 → ∀ (u : UInt64) (v : Int64), u.toBitVec = BitVec.ofNat 64 s → v.toBitVec = BitVec.ofNat 64 s → (Int64.toUInt64 x >>> u).toInt64.toBitVec &&& (255 : Int64).toBitVec = (x >>> v).toBitVec &&& (255 : Int64).toBitVec := by
    intro s hs u v hu hv
    have e1 : (Int64.toUInt64 x >>> u).toInt64.toBitVec = x.toBitVec >>> s := by
      show (Int64.toUInt64 x >>> u).toBitVec = _
      rw [UInt64.toBitVec_shiftRight, hu]
      show x.toBitVec >>> (BitVec.ofNat 64 s % 64) = _
      have : BitVec.ofNat 64 s % 64 = BitVec.ofNat 64 s := by
        apply BitVec.eq_of_toNat_eq
        rw [BitVec.toNat_umod, BitVec.toNat_ofNat]
        show s % 2 ^ 64 % 64 = s % 2 ^ 64
        omega
      rw [this, BitVec.ushiftRight_eq', BitVec.toNat_ofNat, Nat.mod_eq_of_lt (by omega)]
    have e2 : (x >>> v).toBitVec = x.toBitVec.sshiftRight s := by
      rw [Int64.toBitVec_shiftRight, hv, BitVec.sshiftRight_eq']
      have : (BitVec.smod (BitVec.ofNat 64 s) 64).toNat = s := by
        rw [BitVec.smod_eq]
        have hm : (BitVec.ofNat 64 s).msb = false := by
          rw [BitVec.msb_eq_false_iff_two_mul_lt, BitVec.toNat_ofNat]
          omega
        rw [hm]
        show ((BitVec.ofNat 64 s).umod 64).toNat = s
        rw [BitVec.umod_eq, BitVec.toNat_umod, BitVec.toNat_ofNat]
        show s % 2 ^ 64 % 64 = s
        omega
      rw [this]
    rw [e1, e2]
    exact bv_byte x.toBitVec s hs
  rcases (show j = 0 ∨ j = 1 ∨ j = 2 ∨ j = 3 ∨ j = 4 ∨ j = 5 ∨ j = 6 ∨ j = 7 by omega) with rfl | rfl | rfl | rfl | rfl | rfl | rfl | rfl
  · exact key 0 (by omega) _ _ (by decide) (by decide)
  · exact key 8 (by omega) _ _ (by decide) (by decide)
  · exact key 16 (by omega) _ _ (by decide) (by decide)
  · exact key 24 (by omega) _ _ (by decide) (by decide)
  · exact key 32 (by omega) _ _ (by decide) (by decide)
  · exact key 40 (by omega) _ _ (by decide) (by decide)
  · exact key 48 (by omega) _ _ (by decide) (by decide)
  · exact key 56 (by omega) _ _ (by decide) (by decide)
def TX (γ : CS) (μ : MS) (len : Nat) : Prop := γ.1 1 2 = nI len ∧ μ.1 0 9 = nI len ∧ ∀ i, i < len → γ.1 2 i = μ.1 2 i ∧ ∃ t : Nat, t ≤ 255 ∧ γ.1 2 i = nI t
def F12 (γ γ1 : CS) (μ μ1 : MS) : Prop := γ1.2 = γ.2 ∧ (∀ a, a ≠ 1 → a ≠ 2 → γ1.1 a = γ.1 a) ∧ μ1.2 = μ.2 ∧ (∀ a, a ≠ 0 → a ≠ 2 → μ1.1 a = μ.1 a) ∧ ∀ k, k ≠ 9 → μ1.1 0 k = μ.1 0 k
theorem feed_loop (n : Nat) (x2 : Int64) (γ0 : CS) (μ0 : MS) {nn : Nat} (hnn : nn ≤ 8) : ∀ (m j k len : Nat) (γ : CS) (μ : MS), j + m = nn → len + m ≤ 20 → m < k → TX γ μ len → F12 γ0 γ μ0 μ → ∃ γ1 μ1, lc_X6_append_3 n k γ (nI nn) x2 (nI j) = some (0, γ1) ∧ lm_feed_44 n k μ (nI nn) x2 (nI j) = some (nI (len + m), μ1) ∧ TX γ1 μ1 (len + m) ∧ F12 γ0 γ1 μ0 μ1 := by
  intro m
  induction m with
  | zero =>
    intro j k len γ μ hj hl hk hT hF
    obtain ⟨k, rfl⟩ : ∃ k', k = k' + 1 := ⟨k - 1, by omega⟩
    exact ⟨γ, μ, if_t (nI_le (by omega) (by omega)) rfl, if_t (nI_le (by omega) (by omega)) (by rw [hT.2.1]; rfl), hT, hF⟩
  | succ m ih =>
    intro j k len γ μ hj hl hk hT hF
    obtain ⟨k, rfl⟩ : ∃ k', k = k' + 1 := ⟨k - 1, by omega⟩
    obtain ⟨t1, t2, t3⟩ := hT
    obtain ⟨t, ht, et⟩ := by_val (x2 >>> (Int32.toInt64 (8 * nI j) &&& 63))
    have ec : Int32.toNatClampNeg (nI len) = len := nI_clamp (by omega)
    have eC : (cp γ 2 len (nI t)).1 1 2 = nI len := by rw [cp_ne _ _ _ _ (by omega)]; exact t1
    have eM : (mp μ 2 len (nI t)).1 0 9 = nI len := by rw [mp_ne _ _ _ _ (by omega)]; exact t2
    obtain ⟨γ1, μ1, r1, r2, r3, r4⟩ := ih (j + 1) k (len + 1) (cp (cp γ 2 len (nI t)) 1 2 (nI (len + 1))) (mp (mp μ 2 len (nI t)) 0 9 (nI (len + 1))) (by omega) (by omega) (by omega) (by
      refine ⟨by rw [cp_1, if_pos (by omega)], by rw [mp_1, if_pos (by omega)], fun i hi => ?_⟩
      rw [cp_ne _ _ _ _ (by omega), mp_ne _ _ _ _ (by omega), cp_1, mp_1]
      by_cases e : i = len
      · rw [if_pos ⟨rfl, e⟩, if_pos ⟨rfl, e⟩]; exact ⟨rfl, t, ht, rfl⟩
      · rw [if_neg (fun h => e h.2), if_neg (fun h => e h.2)]; exact t3 i (by omega)) (by
      refine ⟨hF.1, fun a h1 h2 => ?_, hF.2.2.1, fun a h1 h2 => ?_, fun k hk => ?_⟩
      · rw [cp_ne _ _ _ _ h1, cp_ne _ _ _ _ h2]; exact hF.2.1 a h1 h2
      · rw [mp_ne _ _ _ _ h1, mp_ne _ _ _ _ h2]; exact hF.2.2.2.1 a h1 h2
      · rw [mp_1, if_neg (by omega), mp_ne _ _ _ _ (by omega)]; exact hF.2.2.2.2 k hk)
    rw [show len + 1 + m = len + (m + 1) by omega] at r2 r3
    refine ⟨γ1, μ1, if_f (nI_ge (by omega) (by omega)) (if_f (by rw [t1]; exact nI_pos (by omega)) (if_f (by rw [t1]; exact nI_ge (b := 20) (by omega) (by omega)) (sq_r (by_both x2 (by omega)) (ck_g (by rw [t1]; exact ib_nI (by omega) (by omega)) (sq_r (x1 := cp γ 2 len (nI t)) (by rw [t1, ec, et]) (sq_r (x1 := cp (cp γ 2 len (nI t)) 1 2 (nI (len + 1))) (by rw [eC, nI_1]) (sq_r (nI_1 j) r1))))))), if_f (nI_ge (by omega) (by omega)) (sq_g (ck_g (by rw [t2]; exact ib_nI (by omega) (by omega)) (sq_r (x1 := mp μ 2 len (nI t)) (by rw [t2, ec, et]) (sq_r (x1 := mp (mp μ 2 len (nI t)) 0 9 (nI (len + 1))) (by rw [eM, nI_1]) (sq_r (nI_1 j) r2))))), r3, r4⟩
theorem Rl_text {γ γ1 : CS} {μ μ1 : MS} {len : Nat} (H : Rl γ μ) (hF : F12 γ γ1 μ μ1) (hl : len ≤ 20) (hT : TX γ1 μ1 len) : Rl γ1 μ1 := by
  refine Rl_base H hF.1 (fun a ha => hF.2.1 a (by omega) (by omega)) (fun a ha => hF.2.2.2.1 a (by omega) (by omega)) (fun k hk => hF.2.2.2.2 k (by unfold okS at hk; omega)) hF.2.2.1 (by rw [hF.2.1 0 (by omega) (by omega)]) (hF.2.2.2.2 54 (by omega)) ⟨len, hl, ⟨hT.1, hT.2.1⟩, hT.2.2⟩ ?_
  unfold RFr
  rw [hF.2.1 4 (by omega) (by omega), hF.2.2.2.1 1 (by omega) (by omega)]
  exact H.2.2.2.2.2.1
theorem s_feed (n : Nat) (hn : 25 ≤ n) : st_feed n Rl := by
  intro γ μ x1 x2 H
  show OK _ _
  obtain ⟨len, h1, h2, h3⟩ := H.2.2.2.2.1
  unfold fc_X7_feed fm_feed bm_feed_29
  by_cases c0 : 1 ≤ x1
  · by_cases c1 : x1 ≤ 8
    · obtain ⟨j, hj0, hj, rfl⟩ := in1 (a := 1) (b := 8) (by omega) (by omega) c0 c1
      refine OK_cm (if_t c0 (if_f (ge_nlt c1) rfl)) (bd_g (bnd_in n μ c0 c1) (if_t rfl rfl)) ?_
      by_cases c2 : len + j ≤ 20
      · obtain ⟨γ1, μ1, r1, r2, r3, r4⟩ := feed_loop n x2 γ μ hj j 0 n len γ μ (by omega) (by omega) (by omega) ⟨h2.1, h2.2, h3⟩ ⟨rfl, fun _ _ _ => rfl, rfl, fun _ _ _ => rfl, fun _ _ => rfl⟩
        refine OK_cm (if_t (by rw [h2.1, nI_add]; exact nI_le (b := 20) (by omega) (by omega)) (bd_g (a := 0) (b := γ1) (sq_g r1) rfl)) (if_t (by rw [h2.2, nI_add]; exact nI_le (b := 20) (by omega) (by omega)) (if_t rfl (sq_g r2))) (OK_ret r3.1 (Rl_text H r4 (by omega) r3))
      · exact OK_cm (if_f (by rw [h2.1, nI_add]; exact nI_ge (a := 20) (by omega) (by omega)) rfl) (if_f (by rw [h2.2, nI_add]; exact nI_ge (a := 20) (by omega) (by omega)) (sq_g (if_f (by decide) rfl))) (OK_6 H)
    · exact OK_cm (if_t c0 (if_t (nle_gt c1) rfl)) (bd_g (bnd_hi n μ c0 c1) (if_f (by decide) (if_f (by decide) rfl))) (OK_6 H)
  · exact OK_cm (if_f c0 rfl) (bd_g (bnd_lo n μ c0) (if_f (by decide) (if_f (by decide) rfl))) (OK_4 H)
