section
/-! the start; all steps together -/
theorem Rl_0 : Rl gam0 mu0 := by
  refine ⟨Nat.le_refl _, fun a x q h => ?_, fun i q => ⟨fun h => ?_, fun h => ?_, fun h => ?_, fun h => ?_⟩, ⟨0, 0, 0, ⟨by omega, by omega, by omega⟩, ⟨rfl, rfl⟩, ⟨rfl, rfl⟩, ⟨rfl, rfl⟩, ⟨rfl, Or.inr rfl⟩, fun i hi => absurd hi (by omega), fun i hi => absurd hi (by omega), rfl, fun f hf => ?_, fun i hi => absurd hi (by omega), ⟨rfl, Or.inl rfl, rfl, fun i hi => absurd hi (by omega), fun i _ _ => rfl, fun h => absurd h (by decide)⟩, ⟨0, 0, by omega, by omega, ⟨rfl, rfl⟩, ⟨rfl, rfl⟩, fun i hi => absurd hi (by omega)⟩⟩, ⟨0, by omega, ⟨rfl, rfl⟩, fun i hi => absurd hi (by omega)⟩, fun k _ _ => rfl, ⟨rfl, Or.inl rfl⟩, fun h => absurd h (by decide)⟩
  · have h : (none : Option Nat) = some q := h
    cases h
  · have h : (none : Option Nat) = some q := h
    cases h
  · have h : (none : Option Nat) = some q := h
    cases h
  · have h : (none : Option Nat) = some q := h
    cases h
  · have h : (none : Option Nat) = some q := h
    cases h
  · have hc : f = 0 ∨ f = 1 ∨ f = 2 ∨ f = 3 := by omega
    rcases hc with rfl | rfl | rfl | rfl <;> exact ⟨9, 0, by omega, by omega, ⟨rfl, rfl⟩, ⟨rfl, rfl⟩⟩
theorem SR_n (n : Nat) (hn : 10000 ≤ n) : SR n Rl :=
  ⟨s_feed n (by omega), s_plate n (by omega), s_plateOf n, s_loss n (by omega), s_lossOf n, s_floor n, s_air n, s_toneAt n, s_takes n hn, s_spin n hn, s_tick n hn, s_state n, s_rolled n, s_tenth n, s_lasts n hn, s_rules n hn, s_passes n hn, s_heard n, s_hush n, s_slip n, s_firstOff n hn, s_supposed n hn, s_ahead n hn, s_parts n hn, s_longest n hn, s_bestFor n hn, s_ear n hn, s_stagger n hn, s_trust n hn, s_leg n, s_legs n hn, s_draws n hn, s_image n (by omega), s_restore n (by omega), s_count n (by omega)⟩
theorem sim_exists : ∃ (n : Nat) (Rl : CS → MS → Prop), SR n Rl ∧ Rl gam0 mu0 := ⟨10000, Rl, SR_n 10000 (Nat.le_refl _), Rl_0⟩
end
