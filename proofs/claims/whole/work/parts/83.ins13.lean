/-! S LEVEL, acts: instrument. -/
noncomputable def iniF (A : zM) (a : Nat) (p q : Int32) : zM := z_wI (z_wI (z_wI (z_wI (z_wI A a 2 (zn 1)) a 3 (zn 1)) a 4 (zn 1)) a 0 p) a 1 q
theorem e_Ninit (d : Nat) {A : zM} {a : Nat} {p q : Int32} (ha : a ≠ 0) (hc : z_cls zQ A a [0, 1, 2, 3, 5, 6, 7] = true) : z_den zQ (d + 1) mN_init [.ref a, .int p, .int q] A = some (none, iniF A a p q) := by
  rw [B_N_init]
  unfold iniF
  simp (disch := omega) only [z_bV_some, z_bI_some, z_bJ_some, z_bD_some, z_bR_some, cond_true, cond_false, Bool.and_true, Bool.true_and, Bool.not_false, Bool.not_true, Bool.and_self, Bool.or_true, Bool.false_or, Bool.true_or, nL_1, z_bq_F, z_cls_wI, hc]
theorem ini_fr (A : zM) (a : Nat) (p q : Int32) : zFr 0 0 (fun a' _ => a' = a) A (iniF A a p q) := by
  unfold iniF
  have f : ∀ (A : zM) (k : Nat) (v : Int32), zFr 0 0 (fun a' _ => a' = a) A (z_wI A a k v) := fun A k v => zFr_wI (X := fun a' _ => a' = a) rfl
  have t : ∀ {A B C : zM}, zFr 0 0 (fun a' _ => a' = a) A B → zFr 0 0 (fun a' _ => a' = a) B C → zFr 0 0 (fun a' _ => a' = a) A C := fun h h' => zFr_trans h h' (fun _ _ _ e => e)
  exact t (t (t (t (f _ _ _) (f _ _ _)) (f _ _ _)) (f _ _ _)) (f _ _ _)
theorem ini_I (A : zM) (a : Nat) (p q : Int32) : zI (iniF A a p q) a 0 = p ∧ zI (iniF A a p q) a 1 = q ∧ zI (iniF A a p q) a 2 = zn 1 ∧ zI (iniF A a p q) a 3 = zn 1 ∧ zI (iniF A a p q) a 4 = zn 1 := by
  unfold iniF
  refine ⟨?_, ?_, ?_, ?_, ?_⟩
  · rw [zI_wI_k (by omega), zI_wI_s]
  · rw [zI_wI_s]
  · rw [zI_wI_k (by omega), zI_wI_k (by omega), zI_wI_k (by omega), zI_wI_k (by omega), zI_wI_s]
  · rw [zI_wI_k (by omega), zI_wI_k (by omega), zI_wI_k (by omega), zI_wI_s]
  · rw [zI_wI_k (by omega), zI_wI_k (by omega), zI_wI_s]
theorem ini_hd (A : zM) (a : Nat) (p q : Int32) (b : Nat) : z_hd zQ (iniF A a p q) b = z_hd zQ A b := rfl
/-- a new object -/
def nwO (A2 : zM) (a n s : Nat) : Prop := z_hd zQ A2 a = some (tgF s, if s = 6 then 7 else 5) ∧ zI A2 a 0 = zn n ∧ zI A2 a 1 = zn s ∧ zI A2 a 2 = zn 1 ∧ zI A2 a 3 = zn 1 ∧ zI A2 a 4 = zn 1 ∧ (s = 6 → zI A2 a 6 = zn 0 ∧ z_hd zQ A2 (zP zQ A2 a 5) = some (16, 8) ∧ a < zP zQ A2 a 5)
theorem nw_none (A : zM) (g : Nat × Nat) : zFr 1 g.2 (fun _ _ => False) A (z_nw zQ A g) := zFr_nw _ A g
theorem nw_ini {A : zM} {t m : Nat} (p q : Int32) : zFr 1 m (fun _ _ => False) A (iniF (z_nw zQ A (t, m)) (z_new zQ A) p q) := by
  have := zFr_trans (nw_none A (t, m)) (ini_fr (z_nw zQ A (t, m)) (z_new zQ A) p q) (fun a _ ha e => by omega)
  exact this
theorem nw_5 {A : zM} {s : Nat} (n : Nat) (hs : s ≠ 6) : nwO (iniF (z_nw zQ A (tgF s, 5)) (z_new zQ A) (zn n) (zn s)) (z_new zQ A) n s := by
  have h := ini_I (z_nw zQ A (tgF s, 5)) (z_new zQ A) (zn n) (zn s)
  refine ⟨?_, h.1, h.2.1, h.2.2.1, h.2.2.2.1, h.2.2.2.2, fun e => absurd e hs⟩
  rw [ini_hd, z_hd_nw_s, if_neg hs]
theorem c_made (d : Nat) (A : zM) {n s : Nat} (hs : s ≤ 6) : ∃ A2, z_den zQ (d + 5) mO_made [.int (zn n), .int (zn s)] A = some (some (.ref (z_new zQ A)), A2) ∧ zFr 2 15 (fun _ _ => False) A A2 ∧ nwO A2 (z_new zQ A) n s := by
  have hn := new_56 A
  have h5 : s = 0 ∨ s = 1 ∨ s = 2 ∨ s = 3 ∨ s = 4 ∨ s = 5 ∨ s = 6 := by omega
  have cl : ∀ (g : Nat × Nat) (l : List Nat), z_cls zQ (z_nw zQ A g) (z_new zQ A) l = z_mem g.1 l := fun g l => z_cls_of (z_hd_nw_s A g) l
  have ei : ∀ (d' : Nat) (g : Nat × Nat) (p q : Int32), z_mem g.1 [0, 1, 2, 3, 5, 6, 7] = true → z_den zQ (d' + 1) mN_init [.ref (z_new zQ A), .int p, .int q] (z_nw zQ A g) = some (none, iniF (z_nw zQ A g) (z_new zQ A) p q) := fun d' g p q hg => e_Ninit d' (by omega) (by rw [cl]; exact hg)
  rw [B_O_made]
  rcases h5 with e | e | e | e | e | e | e
  · subst e
    refine ⟨_, ?_, zFr_mono (nw_ini (t := 5) (m := 5) (zn n) (zn 0)) (by omega) (by omega) (fun _ _ q => q), nw_5 (s := 0) n (by omega)⟩
    simp (disch := omega) only [z_bV_some, z_bI_some, z_bJ_some, z_bD_some, z_bR_some, cond_true, cond_false, Bool.and_true, Bool.true_and, Bool.not_false, Bool.not_true, Bool.and_self, Bool.or_true, Bool.false_or, Bool.true_or, zn_ok, zn_ok0, zn_N, zn_add, zn_mul, zn_sub, z_lt_T, z_lt_F, z_le_T, z_le_F, z_eq_T, z_ne_F, z_eq_F, z_ne_T, z_ix_T, z_lt_m, z_le_m, z_lt_m2, z_le_m2, z_eq_m, z_ne_m, zn_div, z_a31, zn_shl, zn_shr, z_bq_T, z_bq_F, z_bl_T, nL_0, nL_1, nL_2, nL_3, nL_4, nL_5, cl, B_Pipe_init, ei _ (5, 5) _ _ rfl, show z_mem 5 [0, 5, 7] = true from rfl, show z_mem 5 [0, 1, 2, 3, 5, 6, 7] = true from rfl]
  · subst e
    refine ⟨_, ?_, zFr_mono (nw_ini (t := 7) (m := 5) (zn n) (zn 1)) (by omega) (by omega) (fun _ _ q => q), nw_5 (s := 1) n (by omega)⟩
    simp (disch := omega) only [z_bV_some, z_bI_some, z_bJ_some, z_bD_some, z_bR_some, cond_true, cond_false, Bool.and_true, Bool.true_and, Bool.not_false, Bool.not_true, Bool.and_self, Bool.or_true, Bool.false_or, Bool.true_or, zn_ok, zn_ok0, zn_N, zn_add, zn_mul, zn_sub, z_lt_T, z_lt_F, z_le_T, z_le_F, z_eq_T, z_ne_F, z_eq_F, z_ne_T, z_ix_T, z_lt_m, z_le_m, z_lt_m2, z_le_m2, z_eq_m, z_ne_m, zn_div, z_a31, zn_shl, zn_shr, z_bq_T, z_bq_F, z_bl_T, nL_0, nL_1, nL_2, nL_3, nL_4, nL_5, cl, B_Pipe_init, B_Reed_init, ei _ (7, 5) _ _ rfl, show z_mem 7 [0, 7] = true from rfl, show z_mem 7 [0, 5, 7] = true from rfl, show z_mem 7 [0, 1, 2, 3, 5, 6, 7] = true from rfl]
  · subst e
    refine ⟨_, ?_, zFr_mono (nw_ini (t := 0) (m := 5) (zn n) (zn 2)) (by omega) (by omega) (fun _ _ q => q), nw_5 (s := 2) n (by omega)⟩
    simp (disch := omega) only [z_bV_some, z_bI_some, z_bJ_some, z_bD_some, z_bR_some, cond_true, cond_false, Bool.and_true, Bool.true_and, Bool.not_false, Bool.not_true, Bool.and_self, Bool.or_true, Bool.false_or, Bool.true_or, zn_ok, zn_ok0, zn_N, zn_add, zn_mul, zn_sub, z_lt_T, z_lt_F, z_le_T, z_le_F, z_eq_T, z_ne_F, z_eq_F, z_ne_T, z_ix_T, z_lt_m, z_le_m, z_lt_m2, z_le_m2, z_eq_m, z_ne_m, zn_div, z_a31, zn_shl, zn_shr, z_bq_T, z_bq_F, z_bl_T, nL_0, nL_1, nL_2, nL_3, nL_4, nL_5, cl, B_Pipe_init, B_Reed_init, B_Bass_init, ei _ (0, 5) _ _ rfl, show z_mem 0 [0] = true from rfl, show z_mem 0 [0, 7] = true from rfl, show z_mem 0 [0, 5, 7] = true from rfl, show z_mem 0 [0, 1, 2, 3, 5, 6, 7] = true from rfl]
  · subst e
    refine ⟨_, ?_, zFr_mono (nw_ini (t := 3) (m := 5) (zn n) (zn 3)) (by omega) (by omega) (fun _ _ q => q), nw_5 (s := 3) n (by omega)⟩
    simp (disch := omega) only [z_bV_some, z_bI_some, z_bJ_some, z_bD_some, z_bR_some, cond_true, cond_false, Bool.and_true, Bool.true_and, Bool.not_false, Bool.not_true, Bool.and_self, Bool.or_true, Bool.false_or, Bool.true_or, zn_ok, zn_ok0, zn_N, zn_add, zn_mul, zn_sub, z_lt_T, z_lt_F, z_le_T, z_le_F, z_eq_T, z_ne_F, z_eq_F, z_ne_T, z_ix_T, z_lt_m, z_le_m, z_lt_m2, z_le_m2, z_eq_m, z_ne_m, zn_div, z_a31, zn_shl, zn_shr, z_bq_T, z_bq_F, z_bl_T, nL_0, nL_1, nL_2, nL_3, nL_4, nL_5, cl, B_Drum_init, ei _ (3, 5) _ _ rfl, show z_mem 3 [3] = true from rfl, show z_mem 3 [0, 1, 2, 3, 5, 6, 7] = true from rfl]
  · subst e
    refine ⟨_, ?_, zFr_mono (nw_ini (t := 6) (m := 5) (zn n) (zn 4)) (by omega) (by omega) (fun _ _ q => q), nw_5 (s := 4) n (by omega)⟩
    simp (disch := omega) only [z_bV_some, z_bI_some, z_bJ_some, z_bD_some, z_bR_some, cond_true, cond_false, Bool.and_true, Bool.true_and, Bool.not_false, Bool.not_true, Bool.and_self, Bool.or_true, Bool.false_or, Bool.true_or, zn_ok, zn_ok0, zn_N, zn_add, zn_mul, zn_sub, z_lt_T, z_lt_F, z_le_T, z_le_F, z_eq_T, z_ne_F, z_eq_F, z_ne_T, z_ix_T, z_lt_m, z_le_m, z_lt_m2, z_le_m2, z_eq_m, z_ne_m, zn_div, z_a31, zn_shl, zn_shr, z_bq_T, z_bq_F, z_bl_T, nL_0, nL_1, nL_2, nL_3, nL_4, nL_5, cl, B_Pluck_init, ei _ (6, 5) _ _ rfl, show z_mem 6 [1, 6] = true from rfl, show z_mem 6 [0, 1, 2, 3, 5, 6, 7] = true from rfl]
  · subst e
    refine ⟨_, ?_, zFr_mono (nw_ini (t := 1) (m := 5) (zn n) (zn 5)) (by omega) (by omega) (fun _ _ q => q), nw_5 (s := 5) n (by omega)⟩
    simp (disch := omega) only [z_bV_some, z_bI_some, z_bJ_some, z_bD_some, z_bR_some, cond_true, cond_false, Bool.and_true, Bool.true_and, Bool.not_false, Bool.not_true, Bool.and_self, Bool.or_true, Bool.false_or, Bool.true_or, zn_ok, zn_ok0, zn_N, zn_add, zn_mul, zn_sub, z_lt_T, z_lt_F, z_le_T, z_le_F, z_eq_T, z_ne_F, z_eq_F, z_ne_T, z_ix_T, z_lt_m, z_le_m, z_lt_m2, z_le_m2, z_eq_m, z_ne_m, zn_div, z_a31, zn_shl, zn_shr, z_bq_T, z_bq_F, z_bl_T, nL_0, nL_1, nL_2, nL_3, nL_4, nL_5, cl, B_Pluck_init, B_Bell_init, ei _ (1, 5) _ _ rfl, show z_mem 1 [1] = true from rfl, show z_mem 1 [1, 6] = true from rfl, show z_mem 1 [0, 1, 2, 3, 5, 6, 7] = true from rfl]
  · subst e
    generalize hE : iniF (z_nw zQ A (2, 7)) (z_new zQ A) (zn n) (zn 6) = E
    have f1 : zFr 1 7 (fun _ _ => False) A E := by rw [← hE]; exact nw_ini (zn n) (zn 6)
    have hI := ini_I (z_nw zQ A (2, 7)) (z_new zQ A) (zn n) (zn 6)
    rw [hE] at hI
    have hh : z_hd zQ E (z_new zQ A) = some (2, 7) := by rw [← hE, ini_hd, z_hd_nw_s]
    have hnE : z_new zQ E = z_new zQ A + 1 := by rw [← hE]; exact z_new_nw zQ A (2, 7)
    have hne : z_new zQ A ≠ z_new zQ E := by omega
    have hh2 : z_hd zQ (z_nw zQ E (16, 8)) (z_new zQ A) = some (2, 7) := by rw [z_hd_nw_o hne]; exact hh
    have hc2 : z_cls zQ (z_nw zQ E (16, 8)) (z_new zQ A) [2] = true := by rw [z_cls_of hh2]; rfl
    have fr : z_free zQ (z_new zQ A) 5 = true := z_free_T (by omega) (by omega) (by omega)
    refine ⟨z_wI (z_wP (z_nw zQ E (16, 8)) (z_new zQ A) 5 (z_new zQ E)) (z_new zQ A) 6 (zn 0), ?_, ?_, ?_⟩
    · simp (disch := omega) only [z_bV_some, z_bI_some, z_bJ_some, z_bD_some, z_bR_some, cond_true, cond_false, Bool.and_true, Bool.true_and, Bool.not_false, Bool.not_true, Bool.and_self, Bool.or_true, Bool.false_or, Bool.true_or, zn_ok, zn_ok0, zn_N, zn_add, zn_mul, zn_sub, z_lt_T, z_lt_F, z_le_T, z_le_F, z_eq_T, z_ne_F, z_eq_F, z_ne_T, z_ix_T, z_lt_m, z_le_m, z_lt_m2, z_le_m2, z_eq_m, z_ne_m, zn_div, z_a31, zn_shl, zn_shr, z_bq_T, z_bq_F, z_bl_T, nL_0, nL_1, nL_2, nL_3, nL_4, nL_5, nL_6, cl, B_Coup_init, ei _ (2, 7) _ _ rfl, hE, fr, hc2, z_cls_wP, show z_mem 2 [2] = true from rfl, show z_mem 2 [0, 1, 2, 3, 5, 6, 7] = true from rfl]
    · have f2 : zFr 1 8 (fun _ _ => False) E (z_nw zQ E (16, 8)) := nw_none E (16, 8)
      have f3 : zFr 0 0 (fun a _ => a = z_new zQ A) (z_nw zQ E (16, 8)) (z_wP (z_nw zQ E (16, 8)) (z_new zQ A) 5 (z_new zQ E)) := zFr_wP (X := fun a _ => a = z_new zQ A) rfl
      have f4 : zFr 0 0 (fun a _ => a = z_new zQ A) (z_wP (z_nw zQ E (16, 8)) (z_new zQ A) 5 (z_new zQ E)) (z_wI (z_wP (z_nw zQ E (16, 8)) (z_new zQ A) 5 (z_new zQ E)) (z_new zQ A) 6 (zn 0)) := zFr_wI (X := fun a _ => a = z_new zQ A) rfl
      have f12 : zFr 2 15 (fun _ _ => False) A (z_nw zQ E (16, 8)) := zFr_trans f1 f2 (fun _ _ _ e => e)
      exact zFr_trans (zFr_trans f12 f3 (fun a _ ha e => by omega)) f4 (fun a _ ha e => by omega)
    · have p5 : zP zQ (z_wI (z_wP (z_nw zQ E (16, 8)) (z_new zQ A) 5 (z_new zQ E)) (z_new zQ A) 6 (zn 0)) (z_new zQ A) 5 = z_new zQ E := by rw [zP_wI, zP_wP_s (by omega) (by omega) (by omega)]
      have il : ∀ k, k ≠ 6 → zI (z_wI (z_wP (z_nw zQ E (16, 8)) (z_new zQ A) 5 (z_new zQ E)) (z_new zQ A) 6 (zn 0)) (z_new zQ A) k = zI E (z_new zQ A) k := fun k hk => by rw [zI_wI_k hk, zI_wP, zI_nw_o hne]
      refine ⟨by rw [z_hd_wI, z_hd_wP, hh2]; rfl, by rw [il 0 (by omega)]; exact hI.1, by rw [il 1 (by omega)]; exact hI.2.1, by rw [il 2 (by omega)]; exact hI.2.2.1, by rw [il 3 (by omega)]; exact hI.2.2.2.1, by rw [il 4 (by omega)]; exact hI.2.2.2.2, fun _ => ⟨zI_wI_s .., ?_, ?_⟩⟩
      · rw [p5, z_hd_wI, z_hd_wP, z_hd_nw_s]
      · rw [p5]; omega
