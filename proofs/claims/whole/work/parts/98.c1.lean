/-! S LEVEL: the start. -/
def st0 (L : Nat) (M : zM) : Prop := (∀ a k, a < 56 → zI M a k = if a = 8 ∧ k < 8 then -1 else if a = 3 ∧ k = 12 then 7040 else if (a = 11 ∧ k = 4) ∨ (a = 15 ∧ k = 49) then -4 else 0) ∧ (∀ a k, a < 56 → zQp a k = none → zP zQ M a k = 0) ∧ zD M 15 22 = 4646448178051153920 ∧ z_hd zQ M 56 = some (20, L)
theorem d440 : zf_div.1 (UInt64.ofNat (iN 7040)) 4625196817309499392 = 4646448178051153920 := by
  rw [zf_div.2]
  decide +kernel
noncomputable def G0 : zG := (0, fun _ => 0, fun _ _ => 0, 0, fun _ => zeroT, 0)
def J0 : zJ := (0, fun _ => 0, fun _ => 0, fun _ _ => 0, fun _ => 0, fun _ => 0, fun _ => 0, 7040)
def H0 : zH := (0, fun _ => 0, fun _ => 0, fun _ => -1, fun _ => -1, fun _ => 0)
def P0 (M : zM) : yP := ((fun k => zI M 11 k, fun k => zI M 13 k, fun k => zI M 10 k), [], fun _ => (fun _ => 0, []), 0, 0, 0)
noncomputable def W0 (M : zM) : zW := (G0, zF0, J0, H0, P0 M, false, 0, 0)
theorem st0_0 {L : Nat} {M : zM} (h : st0 L M) {a k : Nat} (ha : a < 56) (h1 : ¬ (a = 8 ∧ k < 8)) (h2 : ¬ (a = 3 ∧ k = 12)) (h3 : ¬ ((a = 11 ∧ k = 4) ∨ (a = 15 ∧ k = 49))) : zI M a k = zn 0 := by
  rw [h.1 a k ha, if_neg h1, if_neg h2, if_neg h3, nL_0]
theorem SC_0 {L : Nat} {M : zM} (h : st0 L M) : SC (W0 M) (fun _ => 0) M := by
  have z := @st0_0 L M h
  have p : ∀ a k, a < 56 → zQp a k = none → zP zQ M a k = 0 := h.2.1
  refine ⟨⟨z (by omega) (by omega) (by omega) (by omega), z (by omega) (by omega) (by omega) (by omega), z (by omega) (by omega) (by omega) (by omega), fun r hr => absurd hr (Nat.not_lt_zero _), fun r s hr => absurd hr (Nat.not_lt_zero _), fun r r' hr => absurd hr (Nat.not_lt_zero _), fun q hq => absurd hq (Nat.not_lt_zero _), fun q q' hq => absurd hq (Nat.not_lt_zero _), ⟨L, h.2.2.2⟩⟩, ⟨z (by omega) (by omega) (by omega) (by omega), fun k hk => absurd hk (Nat.not_lt_zero _)⟩, ⟨z (by omega) (by omega) (by omega) (by omega), ?_, fun i hi => absurd hi (Nat.not_lt_zero _), fun i _ hi => p 4 i (by omega) (zQp_no (by omega) (by omega) (by omega)), fun i j hi => absurd hi (Nat.not_lt_zero _)⟩, ⟨z (by omega) (by omega) (by omega) (by omega), fun c hc => absurd hc (Nat.not_lt_zero _), fun c hc => z (by omega) (by omega) (by omega) (by omega), fun q hq => absurd hq (Nat.not_lt_zero _), fun t ht => ⟨?_, ?_⟩⟩, ⟨⟨⟨fun j _ _ => rfl, z (by omega) (by omega) (by omega) (by omega), fun k hk => absurd hk (Nat.not_lt_zero _)⟩, fun k => rfl, fun k => rfl⟩, ⟨Nat.zero_le _, fun s hs => absurd hs (Nat.not_lt_zero _), fun s _ hs => p 12 s (by omega) (zQp_no (by omega) (by omega) (by omega)), fun s s' hs => absurd hs (Nat.not_lt_zero _)⟩, z (by omega) (by omega) (by omega) (by omega)⟩, z (by omega) (by omega) (by omega) (by omega), ?_, fun hb => by cases hb⟩
  · rw [h.1 3 12 (by omega), if_neg (by omega), if_pos ⟨rfl, rfl⟩]; exact nL_7040
  · show zI M 8 t = -1
    rw [h.1 8 t (by omega), if_pos ⟨rfl, ht⟩]
  · show zI M 9 t = 0
    rw [z (by omega) (by omega) (by omega) (by omega), nL_0]
  · show zI M 1 7 = 0
    rw [z (by omega) (by omega) (by omega) (by omega), nL_0]
theorem SR_0 {L : Nat} {M : zM} (h : st0 L M) : SR (W0 M) M := by
  have z := @st0_0 L M h
  have z0 : ∀ a k, a < 56 → ¬ (a = 8 ∧ k < 8) → ¬ (a = 3 ∧ k = 12) → ¬ ((a = 11 ∧ k = 4) ∨ (a = 15 ∧ k = 49)) → zI M a k = 0 := fun a k a1 a2 a3 a4 => by rw [z a1 a2 a3 a4, nL_0]
  have b0 : ∀ t, t < 32 → btF (zI M 11 7) t = false := fun t ht => by rw [z0 11 7 (by omega) (by omega) (by omega) (by omega)]; exact bt_0 ht
  have b8 : ∀ t, t < 32 → btF (zI M 11 8) t = false := fun t ht => by rw [z0 11 8 (by omega) (by omega) (by omega) (by omega)]; exact bt_0 ht
  have e : ∀ a k a' k', a < 56 → ¬ (a = 8 ∧ k < 8) → ¬ (a = 3 ∧ k = 12) → ¬ ((a = 11 ∧ k = 4) ∨ (a = 15 ∧ k = 49)) → a' < 56 → ¬ (a' = 8 ∧ k' < 8) → ¬ (a' = 3 ∧ k' = 12) → ¬ ((a' = 11 ∧ k' = 4) ∨ (a' = 15 ∧ k' = 49)) → zI M a k = zI M a' k' := fun a k a' k' h1 h2 h3 h4 h5 h6 h7 h8 => by rw [z0 a k h1 h2 h3 h4, z0 a' k' h5 h6 h7 h8]
  refine ⟨⟨z (by omega) (by omega) (by omega) (by omega), z (by omega) (by omega) (by omega) (by omega), z (by omega) (by omega) (by omega) (by omega), fun r hr => absurd hr (Nat.not_lt_zero _), fun r _ hr => z (by omega) (by omega) (by omega) (by omega), fun r s hr => absurd hr (Nat.not_lt_zero _), fun q hq => absurd hq (Nat.not_lt_zero _), fun q _ hq => ⟨z (by omega) (by omega) (by omega) (by omega), z (by omega) (by omega) (by omega) (by omega), z (by omega) (by omega) (by omega) (by omega), z (by omega) (by omega) (by omega) (by omega), z (by omega) (by omega) (by omega) (by omega), z (by omega) (by omega) (by omega) (by omega), fun i hi => z (by omega) (by omega) (by omega) (by omega), fun k hk => z (by omega) (by omega) (by omega) (by omega)⟩⟩, ⟨z (by omega) (by omega) (by omega) (by omega), fun k hk => absurd hk (Nat.not_lt_zero _)⟩, ⟨z (by omega) (by omega) (by omega) (by omega), ?_, fun i hi => absurd hi (Nat.not_lt_zero _), fun i _ hi => ⟨z (by omega) (by omega) (by omega) (by omega), z (by omega) (by omega) (by omega) (by omega)⟩⟩, ⟨z (by omega) (by omega) (by omega) (by omega), z (by omega) (by omega) (by omega) (by omega), fun c hc => absurd hc (Nat.not_lt_zero _), fun q hq => absurd hq (Nat.not_lt_zero _), fun t ht => ⟨?_, ?_⟩⟩, ⟨⟨⟨?_, ?_, fun i hi => ⟨?_, ?_, ?_⟩, fun j hj => ?_, fun j hj => ?_⟩, ⟨z (by omega) (by omega) (by omega) (by omega), fun k hk => absurd hk (Nat.not_lt_zero _)⟩, ⟨?_, ?_, ?_, ?_, ?_, ?_⟩, fun t ht => ?_, fun t ht => ?_, fun t ht => ?_, ?_, ?_, fun hh => ?_⟩, z (by omega) (by omega) (by omega) (by omega)⟩, z (by omega) (by omega) (by omega) (by omega), ?_, fun hb => by cases hb⟩
  · show zD M 15 22 = zf_div.1 (UInt64.ofNat (iN 7040)) 4625196817309499392
    rw [d440]; exact h.2.2.1
  · show zI M 37 t = -1 + 1
    rw [z0 _ _ (by omega) (by omega) (by omega) (by omega)]; rfl
  · show zI M 38 t = 0
    exact z0 _ _ (by omega) (by omega) (by omega) (by omega)
  · exact e _ _ 11 13 (by omega) (by omega) (by omega) (by omega) (by omega) (by omega) (by omega) (by omega)
  · exact e _ _ 11 3 (by omega) (by omega) (by omega) (by omega) (by omega) (by omega) (by omega) (by omega)
  · exact e _ _ 11 (23 + i) (by omega) (by omega) (by omega) (by omega) (by omega) (by omega) (by omega) (by omega)
  · exact e _ _ 11 (83 + i) (by omega) (by omega) (by omega) (by omega) (by omega) (by omega) (by omega) (by omega)
  · exact e _ _ 11 (143 + i) (by omega) (by omega) (by omega) (by omega) (by omega) (by omega) (by omega) (by omega)
  · exact e _ _ 13 j (by omega) (by omega) (by omega) (by omega) (by omega) (by omega) (by omega) (by omega)
  · exact e _ _ 10 j (by omega) (by omega) (by omega) (by omega) (by omega) (by omega) (by omega) (by omega)
  · exact e _ _ 11 0 (by omega) (by omega) (by omega) (by omega) (by omega) (by omega) (by omega) (by omega)
  · exact e _ _ 11 1 (by omega) (by omega) (by omega) (by omega) (by omega) (by omega) (by omega) (by omega)
  · exact e _ _ 11 2 (by omega) (by omega) (by omega) (by omega) (by omega) (by omega) (by omega) (by omega)
  · show zI M 15 49 = zI M 11 4
    rw [h.1 15 49 (by omega), h.1 11 4 (by omega), if_neg (by omega), if_neg (by omega), if_pos (by omega), if_neg (by omega), if_neg (by omega), if_pos (by omega)]
  · exact e _ _ 11 5 (by omega) (by omega) (by omega) (by omega) (by omega) (by omega) (by omega) (by omega)
  · exact e _ _ 11 6 (by omega) (by omega) (by omega) (by omega) (by omega) (by omega) (by omega) (by omega)
  · show zI M 43 t = bI (btF (zI M 11 7) t)
    rw [b0 t (by omega), bI_F]; exact z (by omega) (by omega) (by omega) (by omega)
  · show zI M 45 t = bI (btF (zI M 11 8) t)
    rw [b8 t (by omega), bI_F]; exact z (by omega) (by omega) (by omega) (by omega)
  · exact e _ _ 11 (15 + t) (by omega) (by omega) (by omega) (by omega) (by omega) (by omega) (by omega) (by omega)
  · exact e _ _ 11 11 (by omega) (by omega) (by omega) (by omega) (by omega) (by omega) (by omega) (by omega)
  · exact e _ _ 11 12 (by omega) (by omega) (by omega) (by omega) (by omega) (by omega) (by omega) (by omega)
  · have hh : (zI M 11 12).toInt < (zI M 11 11).toInt := hh
    rw [e 11 12 11 11 (by omega) (by omega) (by omega) (by omega) (by omega) (by omega) (by omega) (by omega)] at hh
    omega
  · show zI M 15 0 = 0
    exact z0 _ _ (by omega) (by omega) (by omega) (by omega)
theorem SW_0 {L : Nat} {M : zM} (h : st0 L M) : SW (W0 M) := by
  have z0 : ∀ a k, a < 56 → ¬ (a = 8 ∧ k < 8) → ¬ (a = 3 ∧ k = 12) → ¬ ((a = 11 ∧ k = 4) ∨ (a = 15 ∧ k = 49)) → zI M a k = 0 := fun a k a1 a2 a3 a4 => by rw [st0_0 h a1 a2 a3 a4, nL_0]
  refine ⟨⟨Nat.zero_le _, Nat.zero_le _, rfl, fun r s hr => absurd hr (Nat.not_lt_zero _), fun q hq => absurd hq (Nat.not_lt_zero _), rfl, Nat.zero_le _⟩, ⟨Nat.zero_le _, fun k hk => absurd hk (Nat.not_lt_zero _)⟩, ⟨Nat.zero_le _, (by show 1 ≤ 7040; omega), (by show 7040 ≤ 32000; omega), fun i hi => absurd hi (Nat.not_lt_zero _)⟩, ⟨Nat.zero_le _, rfl, fun c hc => absurd hc (Nat.not_lt_zero _), Nat.zero_le _, fun c hc => absurd hc (Nat.not_lt_zero _), fun q hq => absurd hq (Nat.not_lt_zero _), fun t _ => Or.inl rfl⟩, (fun hb => by cases hb), fun _ => ⟨rfl, ⟨⟨Nat.zero_le _, Nat.zero_le _, fun s hs => by cases hs⟩, fun t ht => ⟨Nat.zero_le _, fun _ => rfl⟩, fun c c1 c2 => ?_, 0, ?_, Nat.zero_le _⟩, Or.inl ?_⟩, Nat.zero_le _⟩
  · show btF (zI M 11 8) c = false
    rw [z0 _ _ (by omega) (by omega) (by omega) (by omega)]; exact bt_0 c2
  · show zI M 11 3 = zn 0
    rw [z0 _ _ (by omega) (by omega) (by omega) (by omega), nL_0]
  · show zI M 11 6 = 0
    exact z0 _ _ (by omega) (by omega) (by omega) (by omega)
