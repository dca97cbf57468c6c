/-! S LEVEL, acts: couple, the reference. -/
theorem zE_J {J : zJ} (w : wJ J) : zEq J (jZ J) := fun i hi => by rw [← smZ_T]; exact (w.2.2.2 i hi).2.2.2.2.2.1
theorem vJ_w {J : zJ} (w : wJ J) : vJ J := ⟨w.1, fun i hi => ⟨(w.2.2.2 i hi).2.1, (w.2.2.2 i hi).2.2.2.2.2.2.2⟩⟩
theorem vJ_cp {J : zJ} (w : wJ J) {c m : Nat} (hm : m < jN J) (h8 : jM J c < 8) : vJ (cpJ J c m) := by
  refine ⟨w.1, fun i hi => ?_⟩
  have hi : i < jN J := hi
  rw [jM_cp]
  by_cases e : i = c
  · subst e
    rw [if_pos rfl]
    refine ⟨by omega, fun k hk => ?_⟩
    show (if i = i ∧ k = jM J i then m else jB J i k) < jN J
    by_cases q : k = jM J i
    · rw [if_pos ⟨rfl, q⟩]; exact hm
    · rw [if_neg (fun p => q p.2)]; exact ms_lt w hi (by omega)
  · rw [if_neg e]
    refine ⟨(w.2.2.2 i hi).2.1, fun k hk => ?_⟩
    show (if i = c ∧ k = jM J c then m else jB J i k) < jN J
    rw [if_neg (fun p => e p.1)]; exact ms_lt w hi hk
theorem zE_cp {J : zJ} (w : wJ J) {c m : Nat} (h0 : twF J c 40 m = 0) : zEq (cpJ J c m) (nzF J c (jZ J m)) := by
  intro i hi
  have hi : i < jN J := hi
  have w6 := (w.2.2.2 i hi).2.2.2.2.2.1
  rw [smZ_T] at w6
  have htw := tw_40 w c hi
  have es : ∀ l : List Nat, smT (nzF J c (jZ J m)) l = smT (jZ J) l + smT (twF J c 40) l * jZ J m := fun l => smT_lin J (twF J c 40) (jZ J m) l
  rw [jM_cp]
  by_cases e : i = c
  · subst e
    rw [if_pos rfl] at htw
    rw [if_pos rfl, ms_sn, Nat.zero_add, jB_cp, if_pos ⟨rfl, rfl⟩, ms_cg (J := J) (J' := cpJ J i m) (jM J i) 0 (fun u _ h2 => by rw [jB_cp, if_neg (by omega)]), smT_app, es]
    show nzF J i (jZ J m) i = 1 + (smT (jZ J) (msF J i 0 (jM J i)) + smT (twF J i 40) (msF J i 0 (jM J i)) * jZ J m + (jZ J m + twF J i 40 m * jZ J m + 0))
    unfold nzF
    rw [htw, h0, Nat.add_mul, Nat.one_mul, Nat.zero_mul]
    omega
  · rw [if_neg e, Nat.zero_add] at htw
    rw [if_neg e, ms_cg (J := J) (J' := cpJ J c m) (jM J i) 0 (fun u _ h2 => by rw [jB_cp, if_neg (fun p => e p.1)]), es]
    show jZ J i + twF J c 40 i * jZ J m = _
    rw [htw]; omega
/-- rows but that of sizes -/
theorem rJ_rS {J : zJ} {M : zM} (h : rJ J M) : rS J M := ⟨h.1, fun i hi => ⟨(h.2.2.1 i hi).2.1, (h.2.2.1 i hi).2.2.2.2.2⟩⟩
def rN (J : zJ) (B : zM) : Prop := zI B 15 14 = zn (jN J) ∧ zD B 15 22 = zf_div.1 (UInt64.ofNat (iN (jE J))) 4625196817309499392 ∧ (∀ i, i < jN J → zI B 26 i = zn (jS J i) ∧ zI B 27 i = zn (jM J i) ∧ zI B 31 i = zn (if jQ J i = 0 then 1 else 0) ∧ zD B 32 i = (if jQ J i = 0 then 0 else zf_div.1 (UInt64.ofNat (iN (jP J i))) (UInt64.ofNat (iN (jQ J i)))) ∧ ∀ k, k < jM J i → zI B 28 (8 * i + k) = zn (jB J i k)) ∧ ∀ i, jN J ≤ i → i < 60 → zI B 27 i = zn 0 ∧ zI B 31 i = zn 0
theorem rN_S {J : zJ} {M : zM} (h : rN J M) : rS J M := ⟨h.1, fun i hi => ⟨(h.2.2.1 i hi).2.1, (h.2.2.1 i hi).2.2.2.2⟩⟩
theorem rN_29 {J : zJ} {M M' : zM} (h : rN J M) (f : zFr 0 0 (fun a _ => a = 29) M M') (h29 : ∀ i, i < jN J → zI M' 29 i = zn (jZ J i)) : rJ J M' := by
  have hn := new_56 M
  obtain ⟨h1, h2, h3, h4⟩ := h
  have i1 : ∀ a k, a < 56 → a ≠ 29 → zI M' a k = zI M a k := fun a k ha hx => zFr_I f k (by omega) hx
  have d1 : ∀ a k, a < 56 → a ≠ 29 → zD M' a k = zD M a k := fun a k ha hx => zFr_D f k (by omega) hx
  refine ⟨by rw [i1 15 14 (by omega) (by omega)]; exact h1, by rw [d1 15 22 (by omega) (by omega)]; exact h2, fun i hi => ?_, fun i a1 a2 => by rw [i1 27 i (by omega) (by omega), i1 31 i (by omega) (by omega)]; exact h4 i a1 a2⟩
  obtain ⟨g1, g2, g4, g5, g6⟩ := h3 i hi
  exact ⟨by rw [i1 26 i (by omega) (by omega)]; exact g1, by rw [i1 27 i (by omega) (by omega)]; exact g2, h29 i hi, by rw [i1 31 i (by omega) (by omega)]; exact g4, by rw [d1 32 i (by omega) (by omega)]; exact g5, fun k hk => by rw [i1 28 _ (by omega) (by omega)]; exact g6 k hk⟩
theorem rN_cp {J : zJ} {M : zM} (w : wJ J) (h : rJ J M) {c m : Nat} (hc : c < jN J) (h8 : jM J c < 8) : rN (cpJ J c m) (z_wI (z_wI M 28 (8 * c + jM J c) (zn m)) 27 c (zn (jM J c + 1))) := by
  obtain ⟨h1, h2, h3, h4⟩ := h
  refine ⟨by rw [zI_wI_a (by omega), zI_wI_a (by omega)]; exact h1, by rw [zD_wI, zD_wI]; exact h2, fun i hi => ?_, fun i a1 a2 => ?_⟩
  · have hi : i < jN J := hi
    obtain ⟨g1, g2, g3, g4, g5, g6⟩ := h3 i hi
    have wi := (w.2.2.2 i hi).2.1
    have wc := (w.2.2.2 c hc).2.1
    refine ⟨by rw [zI_wI_a (by omega), zI_wI_a (by omega)]; exact g1, ?_, by rw [zI_wI_a (by omega), zI_wI_a (by omega)]; exact g4, by rw [zD_wI, zD_wI]; exact g5, fun k hk => ?_⟩
    · rw [jM_cp]
      by_cases e : i = c
      · subst e; rw [zI_wI_s, if_pos rfl]
      · rw [zI_wI_k e, zI_wI_a (by omega), if_neg e]; exact g2
    · rw [jM_cp] at hk
      rw [zI_wI_a (by omega), jB_cp]
      by_cases e : i = c ∧ k = jM J c
      · rw [if_pos e, e.1, e.2, zI_wI_s]
      · by_cases ec : i = c
        · have hk2 : k ≠ jM J c := fun q => e ⟨ec, q⟩
          rw [if_pos ec] at hk
          subst ec
          rw [if_neg e, zI_wI_k (by omega)]; exact g6 k (by omega)
        · rw [if_neg ec] at hk
          rw [if_neg e]
          by_cases q : 8 * i + k = 8 * c + jM J c
          · omega
          · rw [zI_wI_k q]; exact g6 k hk
  · have a1 : jN J ≤ i := a1
    rw [zI_wI_k (by omega), zI_wI_a (by omega), zI_wI_a (by omega), zI_wI_a (by omega)]; exact h4 i a1 a2
