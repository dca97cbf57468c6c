/-! S LEVEL, PLAYING: the tempo goes on, both sides. -/
noncomputable def tmV (S : yR) : Int32 := yG S 9 + Int64.toInt32 (fdF ((((Int32.toInt64 (yG S 10 - yG S 9)) * (Int32.toInt64 (yG S 12 + 1))) * 2) + (Int32.toInt64 (yG S 11))) (2 * (Int32.toInt64 (yG S 11))))
noncomputable def tmF (S : yR) : yR := pif ((yG S 12).toInt < (yG S 11).toInt) (uG (uG S 12 (yG S 12 + 1)) 0 (tmV S)) S
noncomputable def phF (S : yR) : yR := pif ((yG S 2 + 1).toInt < (yG S 0).toInt) (uG S 2 (yG S 2 + 1)) (uG (uG S 2 0) 1 (yG S 1 + 1))
theorem sp_pos {x : Int32} (h : 0 < x.toInt) : 0 < (2 * Int32.toInt64 x).toInt := by
  have b1 := Int32.toInt_lt x
  rw [Int64.toInt_mul, Int32.toInt_toInt64, show (2 : Int64).toInt = 2 from rfl, Int.bmod_eq_of_le (by omega) (by omega)]
  omega
theorem c_tgo (d : Nat) {A : zM} {S : yR} {l : yL} {f : Nat → Int32} (hY : cY (yG S) l f) (h12 : 0 ≤ (yG S 12).toInt) : ∃ f', z_den zQ (d + 2) mO_goOnWithTempo [.ref 3] (yC A f S) = some (none, yC A f' (tmF S)) ∧ cY (yG (tmF S)) l f' := by
  have z11 : z_ix (11 : Int32) 523 = true := ix_L nL_11 (by omega) (by omega)
  have n11 : Int32.toNatClampNeg (11 : Int32) = 11 := by rw [nL_11]; exact zn_N (by omega)
  have z12 : z_ix (12 : Int32) 523 = true := ix_L nL_12 (by omega) (by omega)
  have n12 : Int32.toNatClampNeg (12 : Int32) = 12 := by rw [nL_12]; exact zn_N (by omega)
  have z0 : z_ix (0 : Int32) 523 = true := ix_L nL_0 (by omega) (by omega)
  have n0 : Int32.toNatClampNeg (0 : Int32) = 0 := by rw [nL_0]; exact zn_N (by omega)
  have z9 : z_ix (9 : Int32) 523 = true := ix_L nL_9 (by omega) (by omega)
  have n9 : Int32.toNatClampNeg (9 : Int32) = 9 := by rw [nL_9]; exact zn_N (by omega)
  have z10 : z_ix (10 : Int32) 523 = true := ix_L nL_10 (by omega) (by omega)
  have n10 : Int32.toNatClampNeg (10 : Int32) = 10 := by rw [nL_10]; exact zn_N (by omega)
  have e9 : f 9 = yG S 9 := hY.1 9 (by omega) (by omega)
  have e10 : f 10 = yG S 10 := hY.1 10 (by omega) (by omega)
  have e11 : f 11 = yG S 11 := hY.1 11 (by omega) (by omega)
  have e12 : f 12 = yG S 12 := hY.1 12 (by omega) (by omega)
  rw [B_O_goOnWithTempo, z11, z12, z0, z9, z10, n11, n12, n0, n9, n10]
  simp only [cond_true, yC_w11, yC_11, e11, e12, le0_eq, lt_eqI]
  have u9 : up f 12 (yG S 12 + 1) 9 = yG S 9 := by rw [up_o (by omega)]; exact e9
  have u10 : up f 12 (yG S 12 + 1) 10 = yG S 10 := by rw [up_o (by omega)]; exact e10
  unfold tmF
  by_cases g : (yG S 12).toInt < (yG S 11).toInt
  · have g0 : 0 < (yG S 11).toInt := by omega
    rw [pif_T g, decide_eq_false (p := ¬ 0 < (yG S 11).toInt) (fun q => q g0), cond_false, decide_eq_true g, cond_true, up_s, u9, u10, c_fdiv d _ (sp_pos g0), z_bJ_some]
    refine ⟨up (up f 12 (yG S 12 + 1)) 0 (tmV S), ?_, cY_up (cY_up hY (by omega) (by omega) _) (by omega) (by omega) _⟩
    rw [yC_11, u9, yC_w11]; rfl
  · refine ⟨f, ?_, by rw [pif_F g]; exact hY⟩
    rw [pif_F g, decide_eq_false g]
    cases decide (¬ 0 < (yG S 11).toInt) <;> rfl
theorem up_up (f : Nat → Int32) (k : Nat) (v w : Int32) : up (up f k v) k w = up f k w := by
  funext j
  by_cases e : j = k
  · subst e; rw [up_s, up_s]
  · rw [up_o e, up_o e, up_o e]
theorem up_cm (f : Nat → Int32) {k j : Nat} (v w : Int32) (h : k ≠ j) : up (up f k v) j w = up (up f j w) k v := by
  funext i
  by_cases e : i = j
  · subst e; rw [up_s, up_o (fun q => h q.symm), up_s]
  · rw [up_o e]
    by_cases e2 : i = k
    · subst e2; rw [up_s, up_s]
    · rw [up_o e2, up_o e2, up_o e]
/-- one field of the reference -/
def p15 (j K : Nat) : Prop := (j = 0 ∧ K = 41) ∨ (j = 1 ∧ K = 46) ∨ (j = 2 ∧ K = 47) ∨ (j = 4 ∧ K = 49) ∨ (j = 5 ∧ K = 50) ∨ (j = 6 ∧ K = 51)
theorem rA_w15 {g : Nat → Int32} {B : zM} {j K : Nat} (h : rA g B) (hp : p15 j K) (v : Int32) : rA (up g j v) (z_wI B 15 K v) := by
  obtain ⟨⟨a1, a2, a3, a4, a5, a6⟩, b, c, le, d1, d2, d3⟩ := h
  have hd : (up g j v 12).toInt < (up g j v 11).toInt → zI (z_wI B 15 K v) 15 42 = up g j v 9 ∧ zI (z_wI B 15 K v) 15 43 = up g j v 10 := by
    intro hh
    rw [up_o (by unfold p15 at hp; omega), up_o (by unfold p15 at hp; omega)] at hh
    rw [up_o (by unfold p15 at hp; omega), up_o (by unfold p15 at hp; omega), zI_wI_k (by unfold p15 at hp; omega), zI_wI_k (by unfold p15 at hp; omega)]
    exact d3 hh
  have hb : ∀ t, t < 8 → zI (z_wI B 15 K v) 43 t = bI (btF (up g j v 7) t) := fun t ht => by rw [up_o (by unfold p15 at hp; omega), zI_wI_a (by omega)]; exact b t ht
  have hc : ∀ t, t < 16 → zI (z_wI B 15 K v) 45 t = bI (btF (up g j v 8) t) := fun t ht => by rw [up_o (by unfold p15 at hp; omega), zI_wI_a (by omega)]; exact c t ht
  have hl : ∀ t, t < 8 → zI (z_wI B 15 K v) 44 t = up g j v (15 + t) := fun t ht => by rw [up_o (by unfold p15 at hp; omega), zI_wI_a (by omega)]; exact le t ht
  refine ⟨?_, hb, hc, hl, by rw [up_o (by unfold p15 at hp; omega), zI_wI_k (by unfold p15 at hp; omega)]; exact d1, by rw [up_o (by unfold p15 at hp; omega), zI_wI_k (by unfold p15 at hp; omega)]; exact d2, hd⟩
  rcases hp with ⟨rfl, rfl⟩ | ⟨rfl, rfl⟩ | ⟨rfl, rfl⟩ | ⟨rfl, rfl⟩ | ⟨rfl, rfl⟩ | ⟨rfl, rfl⟩ <;> simp (disch := omega) only [up_s, up_o, zI_wI_s, zI_wI_k, true_and, and_true] <;> simp only [a1, a2, a3, a4, a5, a6, and_self]
theorem rA_w12 {g : Nat → Int32} {B : zM} (h : rA g B) (v : Int32) (hv : v.toInt < (g 11).toInt → (g 12).toInt < (g 11).toInt) : rA (up g 12 v) (z_wI B 15 45 v) := by
  obtain ⟨⟨a1, a2, a3, a4, a5, a6⟩, b, c, le, d1, d2, d3⟩ := h
  refine ⟨⟨?_, ?_, ?_, ?_, ?_, ?_⟩, fun u hu => ?_, fun u hu => ?_, fun u hu => ?_, ?_, ?_, fun hh => ?_⟩
  · simp (disch := omega) only [up_o, zI_wI_k]; exact a1
  · simp (disch := omega) only [up_o, zI_wI_k]; exact a2
  · simp (disch := omega) only [up_o, zI_wI_k]; exact a3
  · simp (disch := omega) only [up_o, zI_wI_k]; exact a4
  · simp (disch := omega) only [up_o, zI_wI_k]; exact a5
  · simp (disch := omega) only [up_o, zI_wI_k]; exact a6
  · simp (disch := omega) only [up_o, zI_wI_a]; exact b u hu
  · simp (disch := omega) only [up_o, zI_wI_a]; exact c u hu
  · simp (disch := omega) only [up_o, zI_wI_a]; exact le u hu
  · simp (disch := omega) only [up_o, zI_wI_k]; exact d1
  · rw [up_s, zI_wI_s]
  · rw [up_s, up_o (by omega)] at hh
    simp (disch := omega) only [up_o, zI_wI_k]; exact d3 (hv hh)
theorem rY_w15 {S : yR} {l : yL} {B : zM} {j K : Nat} (h : rY S l B) (hp : p15 j K) (v : Int32) : rY (uG S j v) l (z_wI B 15 K v) := by
  have f : zFr 0 0 xra B (z_wI B 15 K v) := zFr_wI (X := xra) (Or.inl ⟨rfl, by unfold p15 at hp; omega⟩)
  obtain ⟨q1, q2⟩ := rBL_g (S' := uG S j v) h f (fun i hi => by rw [yG_uG, up_o (by unfold p15 at hp; omega)]) rfl rfl
  exact ⟨q1, q2, rA_w15 h.2.2 hp v⟩
theorem rY_w12 {S : yR} {l : yL} {B : zM} (h : rY S l B) (v : Int32) (hv : v.toInt < (yG S 11).toInt → (yG S 12).toInt < (yG S 11).toInt) : rY (uG S 12 v) l (z_wI B 15 45 v) := by
  have f : zFr 0 0 xra B (z_wI B 15 45 v) := zFr_wI (X := xra) (Or.inl ⟨rfl, by omega⟩)
  obtain ⟨q1, q2⟩ := rBL_g (S' := uG S 12 v) h f (fun i hi => by rw [yG_uG, up_o (by omega)]) rfl rfl
  exact ⟨q1, q2, rA_w12 h.2.2 v hv⟩
theorem rY_w3 {S : yR} {l : yL} {B : zM} (h : rY S l B) (v : Int32) : rY (uG S 3 v) l (z_wI B 15 48 v) := by
  have f : zFr 0 0 (fun a k => a = 15 ∧ k = 48) B (z_wI B 15 48 v) := zFr_wI (X := fun a k => a = 15 ∧ k = 48) ⟨rfl, rfl⟩
  obtain ⟨⟨k1, k2, k3, k4, k5⟩, h2, h3⟩ := h
  refine ⟨⟨?_, ?_, fun i hi => ?_, fun i hi => ?_, fun i hi => ?_⟩, rL_fr f h2 (by omega) (fun a k a1 a2 q => by omega), rA_fr f h3 (fun k hk q => by omega) (fun a k a1 a2 q => by omega) (fun j _ b _ _ => by rw [yG_uG, up_o b])⟩
  · rw [yG_uG, up_o (by omega), zI_wI_k (by omega)]; exact k1
  · rw [yG_uG, up_s, zI_wI_s]
  · rw [yG_uG, up_o (by omega), up_o (by omega), up_o (by omega), zI_wI_a (by omega), zI_wI_a (by omega), zI_wI_a (by omega)]; exact k3 i hi
  · rw [zI_wI_a (by omega)]; exact k4 i hi
  · rw [zI_wI_a (by omega)]; exact k5 i hi
theorem rph (d : Nat) {S : yR} {l : yL} {B : zM} (h : rY S l B) : ∃ B', (bif z_lt (yG S 2 + 1) (yG S 0) then (some (none, z_wI B 15 47 (yG S 2 + 1)) : zR) else (some (none, z_wI (z_wI (z_wI B 15 47 (yG S 2 + 1)) 15 47 0) 15 46 (yG S 1 + 1)))) = some (none, B') ∧ rY (phF S) l B' ∧ zFr 0 0 xra B B' := by
  have x47 : ∀ M v, zFr 0 0 xra M (z_wI M 15 47 v) := fun M v => zFr_wI (X := xra) (Or.inl ⟨rfl, by omega⟩)
  have x46 : ∀ M v, zFr 0 0 xra M (z_wI M 15 46 v) := fun M v => zFr_wI (X := xra) (Or.inl ⟨rfl, by omega⟩)
  have p2 : p15 2 47 := by unfold p15; omega
  have p1 : p15 1 46 := by unfold p15; omega
  rw [z_lt_iff]
  unfold phF
  by_cases g : (yG S 2 + 1).toInt < (yG S 0).toInt
  · rw [decide_eq_true g, pif_T g]
    exact ⟨_, rfl, rY_w15 h p2 _, x47 _ _⟩
  · rw [decide_eq_false g, pif_F g]
    refine ⟨_, rfl, ?_, x_tr (x_tr (x47 _ _) (x47 _ _)) (x46 _ _)⟩
    have := rY_w15 (rY_w15 (rY_w15 h p2 (yG S 2 + 1)) p2 0) p1 (yG S 1 + 1)
    have e : uG (uG S 2 (yG S 2 + 1)) 2 0 = uG S 2 0 := by unfold uG; rw [up_up]
    rw [e] at this
    exact this
theorem r_tgo (d : Nat) {S : yR} {l : yL} {B : zM} (h : rY S l B) (h12 : 0 ≤ (yG S 12).toInt) : ∃ B', z_den zQ (d + 2) mQ_tempoGoesOn [.ref 15] B = some (none, B') ∧ rY (phF (tmF S)) l B' ∧ zFr 0 0 xra B B' := by
  obtain ⟨⟨a1, a2, a3, a4, a5, a6⟩, b, c, le, d1, d2, d3⟩ := h.2.2
  rw [B_Q_tempoGoesOn]
  simp (disch := omega) only [zI_wI_s, zI_wI_k]
  rw [d1, d2, a1, a2, a3, z_le_iff]
  unfold tmF
  by_cases g : (yG S 12).toInt < (yG S 11).toInt
  · have g0 : 0 < (yG S 11).toInt := by omega
    obtain ⟨e9, e10⟩ := d3 g
    rw [decide_eq_false (p := (yG S 11).toInt ≤ (yG S 12).toInt) (by omega), cond_false, pif_T g, e9, e10, r_down d _ (sp_pos g0), z_bJ_some]
    simp (disch := omega) only [zI_wI_s, zI_wI_k]
    rw [a2, a3]
    have h1 : rY (uG S 12 (yG S 12 + 1)) l (z_wI B 15 45 (yG S 12 + 1)) := rY_w12 h _ (fun _ => g)
    have h2 : rY (uG (uG S 12 (yG S 12 + 1)) 0 (tmV S)) l (z_wI (z_wI B 15 45 (yG S 12 + 1)) 15 41 (tmV S)) := rY_w15 h1 (by unfold p15; omega) _
    obtain ⟨B', q1, q2, q3⟩ := rph d h2
    refine ⟨B', ?_, q2, x_tr (x_tr (zFr_wI (X := xra) (Or.inl ⟨rfl, by omega⟩)) (zFr_wI (X := xra) (Or.inl ⟨rfl, by omega⟩))) q3⟩
    rw [← q1]
    have u2 : yG (uG (uG S 12 (yG S 12 + 1)) 0 (tmV S)) 2 = yG S 2 := by rw [yG_uG, yG_uG, up_o (by omega), up_o (by omega)]
    have u1 : yG (uG (uG S 12 (yG S 12 + 1)) 0 (tmV S)) 1 = yG S 1 := by rw [yG_uG, yG_uG, up_o (by omega), up_o (by omega)]
    have u0 : yG (uG (uG S 12 (yG S 12 + 1)) 0 (tmV S)) 0 = tmV S := by rw [yG_uG, yG_uG, up_s]
    rw [u2, u1, u0]
    rfl
  · rw [decide_eq_true (p := (yG S 11).toInt ≤ (yG S 12).toInt) (by omega), cond_true, pif_F g]
    exact rph d h
/-- what the tempo leaves as it was -/
theorem tm_G (S : yR) {j : Nat} (h : j ≠ 0) (h2 : j ≠ 12) : yG (tmF S) j = yG S j := by
  unfold tmF
  by_cases g : (yG S 12).toInt < (yG S 11).toInt
  · rw [pif_T g, yG_uG, up_o h, yG_uG, up_o h2]
  · rw [pif_F g]
theorem tm_12 (S : yR) (h : 0 ≤ (yG S 12).toInt) : 0 ≤ (yG (tmF S) 12).toInt := by
  unfold tmF
  by_cases g : (yG S 12).toInt < (yG S 11).toInt
  · have := Int32.toInt_lt (yG S 11)
    rw [pif_T g, yG_uG, up_o (by omega), yG_uG, up_s, tI_add] <;> rw [show (1 : Int32).toInt = 1 from rfl] <;> omega
  · rw [pif_F g]; exact h
theorem ph_G (S : yR) {j : Nat} (h : j ≠ 1) (h2 : j ≠ 2) : yG (phF S) j = yG S j := by
  unfold phF
  by_cases g : (yG S 2 + 1).toInt < (yG S 0).toInt
  · rw [pif_T g, yG_uG, up_o h2]
  · rw [pif_F g, yG_uG, up_o h, yG_uG, up_o h2]
theorem uG_cm (S : yR) {k j : Nat} (v w : Int32) (h : k ≠ j) : uG (uG S k v) j w = uG (uG S j w) k v := by unfold uG; rw [up_cm _ _ _ h]
theorem tm_5 (S : yR) (v : Int32) : tmF (uG S 5 v) = uG (tmF S) 5 v := by
  have e : ∀ j, j ≠ 5 → yG (uG S 5 v) j = yG S j := fun j hj => by rw [yG_uG, up_o hj]
  have eV : tmV (uG S 5 v) = tmV S := by unfold tmV; rw [e 9 (by omega), e 10 (by omega), e 11 (by omega), e 12 (by omega)]
  unfold tmF
  rw [e 11 (by omega), e 12 (by omega), eV]
  by_cases g : (yG S 12).toInt < (yG S 11).toInt
  · rw [pif_T g, pif_T g, uG_cm S _ _ (by omega : 5 ≠ 12), uG_cm _ _ _ (by omega : 5 ≠ 0)]
  · rw [pif_F g, pif_F g]
theorem ph_5 (S : yR) (v : Int32) : phF (uG S 5 v) = uG (phF S) 5 v := by
  have e : ∀ j, j ≠ 5 → yG (uG S 5 v) j = yG S j := fun j hj => by rw [yG_uG, up_o hj]
  unfold phF
  rw [e 2 (by omega), e 0 (by omega), e 1 (by omega)]
  by_cases g : (yG S 2 + 1).toInt < (yG S 0).toInt
  · rw [pif_T g, pif_T g, uG_cm S _ _ (by omega : 5 ≠ 2)]
  · rw [pif_F g, pif_F g, uG_cm S _ _ (by omega : 5 ≠ 2), uG_cm _ _ _ (by omega : 5 ≠ 1)]
