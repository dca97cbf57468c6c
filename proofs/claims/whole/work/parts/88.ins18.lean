/-! S LEVEL: couple, what it comes to. -/
def cpJ (J : zJ) (c m : Nat) : zJ := (J.1, J.2.1, (fun j => if j = c then jM J c + 1 else jM J j), (fun i k => if i = c ∧ k = jM J c then m else jB J i k), J.2.2.2.2.1, J.2.2.2.2.2.1, zkF J c (jZ J m) (jN J), J.2.2.2.2.2.2.2)
theorem jM_cp (J : zJ) (c m j : Nat) : jM (cpJ J c m) j = if j = c then jM J c + 1 else jM J j := rfl
theorem jB_cp (J : zJ) (c m i k : Nat) : jB (cpJ J c m) i k = if i = c ∧ k = jM J c then m else jB J i k := rfl
theorem jZ_cp (J : zJ) (c m i : Nat) (h : i < jN J) : jZ (cpJ J c m) i = nzF J c (jZ J m) i := by
  show zkF J c (jZ J m) (jN J) i = _
  unfold zkF; rw [if_pos h]
theorem ms_sn (J : zJ) (i : Nat) : ∀ (n k : Nat), msF J i k (n + 1) = msF J i k n ++ [jB J i (k + n)]
  | 0, k => rfl
  | n + 1, k => by
    show jB J i k :: msF J i (k + 1) (n + 1) = jB J i k :: (msF J i (k + 1) n ++ [jB J i (k + (n + 1))])
    rw [ms_sn J i n (k + 1), show k + 1 + n = k + (n + 1) by omega]
theorem smT_app (g : Nat → Nat) : ∀ l l' : List Nat, smT g (l ++ l') = smT g l + smT g l'
  | [], l' => by show smT g l' = 0 + smT g l'; omega
  | i :: r, l' => by show g i + smT g (r ++ l') = g i + smT g r + smT g l'; rw [smT_app g r l']; omega
theorem smT_lin (J : zJ) (t : Nat → Nat) (M : Nat) : ∀ l : List Nat, smT (fun j => jZ J j + t j * M) l = smT (jZ J) l + smT t l * M
  | [] => by show 0 = 0 + 0 * M; omega
  | i :: r => by
    show jZ J i + t i * M + smT (fun j => jZ J j + t j * M) r = jZ J i + smT (jZ J) r + (t i + smT t r) * M
    rw [smT_lin J t M r, Nat.add_mul]; omega
theorem tw_40 {J : zJ} (w : wJ J) (c : Nat) {i : Nat} (hi : i < jN J) : twF J c 40 i = (if i = c then 1 else 0) + smT (twF J c 40) (msF J i 0 (jM J i)) := by
  show (if i = c then 1 else 0) + smT (twF J c 39) (msF J i 0 (jM J i)) = _
  rw [smT_cg (g := twF J c 39) (g' := twF J c 40) (fun j hj => by
    have h1 := ms_z w hi hj
    have h2 := (w.2.2.2 i hi).2.2.2.2.2.2.1
    exact tw_fu w c 39 40 j h1.1 (by omega) (by omega))]
theorem w_cp {J : zJ} (w : wJ J) {c m : Nat} (hc : c < jN J) (hm : m < jN J) (h6 : jS J c = 6) (h8 : jM J c < 8) (h0 : twF J c 40 m = 0) (hz : ∀ j, j < jN J → nzF J c (jZ J m) j ≤ 40) : wJ (cpJ J c m) := by
  refine ⟨w.1, w.2.1, w.2.2.1, fun i hi => ?_⟩
  have hi : i < jN J := hi
  obtain ⟨w1, w2, w3, w4, w5, w6, w7, w8⟩ := w.2.2.2 i hi
  rw [jM_cp, jZ_cp J c m i hi]
  have es : ∀ l : List Nat, (∀ j, j ∈ l → j < jN J) → smZ (cpJ J c m) l = smZ J l + smT (twF J c 40) l * jZ J m := by
    intro l hl
    rw [smZ_T, smZ_T, ← smT_lin J (twF J c 40) (jZ J m) l]
    exact smT_cg (fun j hj => jZ_cp J c m j (hl j hj))
  have hml : ∀ j, j ∈ msF J i 0 (jM J i) → j < jN J := fun j hj => (ms_z w hi hj).1
  have htw := tw_40 w c hi
  by_cases e : i = c
  · subst e
    rw [if_pos rfl] at htw
    rw [if_pos rfl]
    refine ⟨w1, by omega, fun q => absurd h6 q, w4, w5, ?_, hz i hi, fun k hk => ?_⟩
    · rw [ms_sn, Nat.zero_add, jB_cp, if_pos ⟨rfl, rfl⟩, ms_cg (J := J) (J' := cpJ J i m) (jM J i) 0 (fun u _ h2 => by rw [jB_cp, if_neg (by omega)]), es _ (fun j hj => by
        rcases List.mem_append.mp hj with q | q
        · exact hml j q
        · rw [List.mem_singleton.mp q]; exact hm)]
      rw [smZ_app, smT_app]
      show nzF J i (jZ J m) i = 1 + (smZ J (msF J i 0 (jM J i)) + (jZ J m + 0) + (smT (twF J i 40) (msF J i 0 (jM J i)) + (twF J i 40 m + 0)) * jZ J m)
      unfold nzF
      rw [htw, h0, Nat.add_mul, Nat.one_mul, Nat.add_zero, Nat.add_zero]
      omega
    · show (if i = i ∧ k = jM J i then m else jB J i k) < jN J
      by_cases q : k = jM J i
      · rw [if_pos ⟨rfl, q⟩]; exact hm
      · rw [if_neg (fun p => q p.2)]; exact w8 k (by omega)
  · rw [if_neg e, Nat.zero_add] at htw
    rw [if_neg e]
    refine ⟨w1, w2, w3, w4, w5, ?_, hz i hi, fun k hk => ?_⟩
    · rw [ms_cg (J := J) (J' := cpJ J c m) (jM J i) 0 (fun u _ h2 => by rw [jB_cp, if_neg (fun p => e p.1)]), es _ hml]
      unfold nzF
      rw [htw]; omega
    · show (if i = c ∧ k = jM J c then m else jB J i k) < jN J
      rw [if_neg (fun p => e p.1)]; exact w8 k hk
/-- the member's place, written -/
theorem c_cp {J : zJ} {A : zM} (w : wJ J) {c m : Nat} (hc : c < jN J) (hm : m < jN J) (h6 : jS J c = 6) (h8 : jM J c < 8) (h : cJ (upZ J (zkF J c (jZ J m) (jN J))) A) : cJ (cpJ J c m) (z_wI (z_wP A (zP zQ A (zP zQ A 4 c) 5) (jM J c) (zP zQ A 4 m)) (zP zQ A 4 c) 6 (zn (jM J c + 1))) := by
  have w0 := w.1
  have hinj := fun i j hi hj => cJ_inj' (J := upZ J (zkF J c (jZ J m) (jN J))) w0 h (i := i) (j := j) hi hj
  have n3 := cJ_n3 h hc
  have n16 := fun i hi c' n (hh : z_hd zQ A c' = some (16, n)) => cJ_n16 h (i := i) hi hh
  obtain ⟨h1, h2, h3, h4, h5⟩ := h
  have kc := ((h3 c hc).2.2.2.2.2.2 h6)
  have kh : z_hd zQ A (zP zQ A (zP zQ A 4 c) 5) = some (16, 8) := kc.2.1
  generalize hρ : zP zQ A (zP zQ A 4 c) 5 = ρ at kh
  generalize hκ : zP zQ A 4 c = κ at *
  have hk4 : ∀ c', z_hd zQ A c' = some (16, 8) → c' ≠ 4 ∧ c' ≠ 1 ∧ c' ≠ 3 ∧ c' ≠ 15 := by
    intro c' hh
    refine ⟨?_, ?_, ?_, ?_⟩
    · intro q; rw [q, show z_hd zQ A 4 = some (16, 60) from rfl] at hh; exact absurd (congrArg Prod.snd (Option.some.inj hh)) (by decide)
    · intro q; rw [q, show z_hd zQ A 1 = some (10, 8) from rfl] at hh; exact absurd (congrArg Prod.fst (Option.some.inj hh)) (by decide)
    · intro q; rw [q, show z_hd zQ A 3 = some (4, 17) from rfl] at hh; exact absurd (congrArg Prod.fst (Option.some.inj hh)) (by decide)
    · intro q; rw [q, show z_hd zQ A 15 = some (11, 68) from rfl] at hh; exact absurd (congrArg Prod.fst (Option.some.inj hh)) (by decide)
  have ρ4 := hk4 ρ kh
  have p4 : ∀ k, zP zQ (z_wI (z_wP A ρ (jM J c) (zP zQ A 4 m)) κ 6 (zn (jM J c + 1))) 4 k = zP zQ A 4 k := fun k => by rw [zP_wI, zP_wP_a (Ne.symm ρ4.1)]
  have p5 : ∀ i, i < jN J → zP zQ (z_wI (z_wP A ρ (jM J c) (zP zQ A 4 m)) κ 6 (zn (jM J c + 1))) (zP zQ A 4 i) 5 = zP zQ A (zP zQ A 4 i) 5 := fun i hi => by rw [zP_wI, zP_wP_a (n16 i hi ρ 8 kh)]
  refine ⟨by rw [zI_wI_a (Ne.symm n3.1), zI_wP]; exact h1, by rw [zI_wI_a (Ne.symm n3.1), zI_wP]; exact h2, fun i hi => ?_, fun i a1 a2 => by rw [p4]; exact h4 i a1 a2, fun i j a1 a2 a3 a4 a5 => by rw [p4, p4, p5 i a1, p5 j a2]; exact h5 i j a1 a2 a3 a4 a5⟩
  have hi : i < jN J := hi
  obtain ⟨g1, g2, g3, g4, g5, g6, g7⟩ := h3 i hi
  rw [p4]
  have il : ∀ k, k ≠ 6 → zI (z_wI (z_wP A ρ (jM J c) (zP zQ A 4 m)) κ 6 (zn (jM J c + 1))) (zP zQ A 4 i) k = zI A (zP zQ A 4 i) k := fun k hk => by rw [zI_wI_k hk, zI_wP]
  refine ⟨g1, by rw [il 0 (by omega)]; exact g2, by rw [il 1 (by omega)]; exact g3, by rw [il 2 (by omega)]; exact g4, by rw [il 3 (by omega)]; exact g5, by rw [il 4 (by omega)]; exact g6, fun e6 => ?_⟩
  obtain ⟨k1, k2, k3⟩ := g7 e6
  rw [p5 i hi, jM_cp]
  by_cases e : i = c
  · subst e
    rw [hκ, hρ, if_pos rfl]
    refine ⟨zI_wI_s .., kh, fun k hk => ?_⟩
    rw [p4, jB_cp, zP_wI]
    by_cases q : k = jM J i
    · rw [if_pos ⟨rfl, q⟩, q, zP_wP_s ρ4.2.1 ρ4.2.2.1 ρ4.2.2.2]
    · rw [if_neg (fun p => q p.2), zP_wP_k q]
      rw [hκ, hρ] at k3
      exact k3 k (by show k < jM J i; omega)
  · have ne : zP zQ A 4 i ≠ κ := fun q => e (hinj i c hi hc (by rw [hκ]; exact q))
    have nρ : zP zQ A (zP zQ A 4 i) 5 ≠ ρ := by rw [← hρ, ← hκ]; exact h5 i c hi hc e6 h6 e
    rw [if_neg e]
    refine ⟨by rw [zI_wI_a ne, zI_wP]; exact k1, k2, fun k hk => ?_⟩
    rw [p4, jB_cp, if_neg (fun p => e p.1), zP_wI, zP_wP_a nρ]
    exact k3 k hk
