/-! S LEVEL: what is fallen. -/
abbrev zFl : Type := Nat × (Nat → Nat) × (Nat → Nat)
def cF (F : zFl) (A : zM) : Prop := zI A 1 6 = zn F.1 ∧ ∀ k, k < F.1 → zI A 14 k = zn (F.2.1 k * 8 + F.2.2 k)
def rF (F : zFl) (B : zM) : Prop := zI B 15 65 = zn F.1 ∧ ∀ k, k < F.1 → zI B 54 k = zn (F.2.1 k) ∧ zI B 55 k = zn (F.2.2 k)
def wFl (F : zFl) : Prop := F.1 ≤ 1792 ∧ ∀ k, k < F.1 → F.2.1 k < 256 ∧ F.2.2 k < 8
def puF (F : zFl) (e t : Nat) : zFl := (F.1 + 1, fun k => if k = F.1 then e else F.2.1 k, fun k => if k = F.1 then t else F.2.2 k)
theorem cF_fr {c s : Nat} {X : Nat → Nat → Prop} {F : zFl} {A A' : zM} (hf : zFr c s X A A') (h : cF F A) (h1 : ¬ X 1 6) (h2 : ∀ k, ¬ X 14 k) : cF F A' := by
  have g56 := z_new_ge A
  refine ⟨?_, fun k hk => ?_⟩
  · rw [zFr_I hf _ (by omega) h1]; exact h.1
  · rw [zFr_I hf _ (by omega) (h2 k)]; exact h.2 k hk
theorem rF_fr {c s : Nat} {X : Nat → Nat → Prop} {F : zFl} {B B' : zM} (hf : zFr c s X B B') (h : rF F B) (h1 : ¬ X 15 65) (h2 : ∀ k, ¬ X 54 k ∧ ¬ X 55 k) : rF F B' := by
  have g56 := z_new_ge B
  refine ⟨?_, fun k hk => ⟨?_, ?_⟩⟩
  · rw [zFr_I hf _ (by omega) h1]; exact h.1
  · rw [zFr_I hf _ (by omega) (h2 k).1]; exact (h.2 k hk).1
  · rw [zFr_I hf _ (by omega) (h2 k).2]; exact (h.2 k hk).2
/-- fallen -/
noncomputable def oFallen (F : zFl) (k q : Int32) : Int32 × Int32 := pif (0 ≤ k.toInt ∧ (0 ≤ q.toInt ∧ q.toInt ≤ 1)) (pif (k.toInt < F.1) (if q = zn 0 then zn (F.2.1 k.toNatClampNeg) else zn (F.2.2 k.toNatClampNeg)) (-4), zn 0) (-1, -1)
theorem P_fallen (d : Nat) {F : zFl} {A : zM} {k q : Int32} (h : cF F A) (w : wFl F) : z_den zQ (d + 2) mP_fallen [.ref 1, .int k, .int q] A = some (some (.int (oFallen F k q).1), z_wI A 1 7 (oFallen F k q).2) := by
  unfold oFallen
  have h1 := w.1
  rw [B_P_fallen]
  rcases zn_cases k with hk | ⟨K, hK, rfl⟩
  · rw [pif_F (fun q => by omega)]
    simp (disch := omega) only [z_bV_some, z_bI_some, z_bJ_some, z_bD_some, z_bR_some, cond_true, cond_false, Bool.and_true, Bool.true_and, Bool.not_false, Bool.not_true, Bool.and_self, Bool.or_true, Bool.false_or, Bool.true_or, zn_ok, zn_ok0, zn_N, zn_add, zn_mul, zn_sub, z_lt_T, z_lt_F, z_le_T, z_le_F, z_eq_T, z_ne_F, z_eq_F, z_ne_T, z_ix_T, z_lt_m, z_le_m, z_lt_m2, z_le_m2, z_eq_m, z_ne_m, zn_div, z_a31, zn_shl, zn_shr, z_bq_T, z_bq_F, z_bl_T, nL_0, B_P_refuse]
  rcases zn_cases q with hq | ⟨Q, hQ, rfl⟩
  · rw [pif_F (fun q => by omega)]
    simp (disch := omega) only [z_bV_some, z_bI_some, z_bJ_some, z_bD_some, z_bR_some, cond_true, cond_false, Bool.and_true, Bool.true_and, Bool.not_false, Bool.not_true, Bool.and_self, Bool.or_true, Bool.false_or, Bool.true_or, zn_ok, zn_ok0, zn_N, zn_add, zn_mul, zn_sub, z_lt_T, z_lt_F, z_le_T, z_le_F, z_eq_T, z_ne_F, z_eq_F, z_ne_T, z_ix_T, z_lt_m, z_le_m, z_lt_m2, z_le_m2, z_eq_m, z_ne_m, zn_div, z_a31, zn_shl, zn_shr, z_bq_T, z_bq_F, z_bl_T, nL_0, B_P_refuse]
  have tK' := zn_toInt hK
  have tQ' := zn_toInt hQ
  by_cases gQ : 1 < Q
  · rw [pif_F (fun q => by omega)]
    simp (disch := omega) only [z_bV_some, z_bI_some, z_bJ_some, z_bD_some, z_bR_some, cond_true, cond_false, Bool.and_true, Bool.true_and, Bool.not_false, Bool.not_true, Bool.and_self, Bool.or_true, Bool.false_or, Bool.true_or, zn_ok, zn_ok0, zn_N, zn_add, zn_mul, zn_sub, z_lt_T, z_lt_F, z_le_T, z_le_F, z_eq_T, z_ne_F, z_eq_F, z_ne_T, z_ix_T, z_lt_m, z_le_m, z_lt_m2, z_le_m2, z_eq_m, z_ne_m, zn_div, z_a31, zn_shl, zn_shr, z_bq_T, z_bq_F, z_bl_T, nL_0, nL_1, B_P_refuse]
  rw [pif_T (by omega), zn_N hK]
  by_cases g : K < F.1
  · obtain ⟨b1, b2⟩ := w.2 K g
    have h14 := h.2 K g
    have e1 : (F.2.1 K * 8 + F.2.2 K) / 8 = F.2.1 K := by omega
    have e2 : F.2.1 K * 8 + F.2.2 K - F.2.1 K * 8 = F.2.2 K := by omega
    rw [pif_T (by omega)]
    rcases (show Q = 0 ∨ Q = 1 by omega) with rfl | rfl
    · rw [if_pos rfl]
      simp (disch := omega) only [z_bV_some, z_bI_some, z_bJ_some, z_bD_some, z_bR_some, cond_true, cond_false, Bool.and_true, Bool.true_and, Bool.not_false, Bool.not_true, Bool.and_self, Bool.or_true, Bool.false_or, Bool.true_or, zn_ok, zn_ok0, zn_N, zn_add, zn_mul, zn_sub, z_lt_T, z_lt_F, z_le_T, z_le_F, z_eq_T, z_ne_F, z_eq_F, z_ne_T, z_ix_T, z_lt_m, z_le_m, z_lt_m2, z_le_m2, z_eq_m, z_ne_m, zn_div, z_a31, zn_shl, zn_shr, z_bq_T, z_bq_F, z_bl_T, nL_0, nL_1, nL_8, nL_1792, h.1, h14, e1, B_P_done]
    · rw [if_neg (fun e => by have := zn_inj (by omega) (by omega) e; omega)]
      simp (disch := omega) only [z_bV_some, z_bI_some, z_bJ_some, z_bD_some, z_bR_some, cond_true, cond_false, Bool.and_true, Bool.true_and, Bool.not_false, Bool.not_true, Bool.and_self, Bool.or_true, Bool.false_or, Bool.true_or, zn_ok, zn_ok0, zn_N, zn_add, zn_mul, zn_sub, z_lt_T, z_lt_F, z_le_T, z_le_F, z_eq_T, z_ne_F, z_eq_F, z_ne_T, z_ix_T, z_lt_m, z_le_m, z_lt_m2, z_le_m2, z_eq_m, z_ne_m, zn_div, z_a31, zn_shl, zn_shr, z_bq_T, z_bq_F, z_bl_T, nL_0, nL_1, nL_8, nL_1792, h.1, h14, e1, e2, B_P_done]
  · rw [pif_F (by omega)]
    simp (disch := omega) only [z_bV_some, z_bI_some, z_bJ_some, z_bD_some, z_bR_some, cond_true, cond_false, Bool.and_true, Bool.true_and, Bool.not_false, Bool.not_true, Bool.and_self, Bool.or_true, Bool.false_or, Bool.true_or, zn_ok, zn_ok0, zn_N, zn_add, zn_mul, zn_sub, z_lt_T, z_lt_F, z_le_T, z_le_F, z_eq_T, z_ne_F, z_eq_F, z_ne_T, z_ix_T, z_lt_m, z_le_m, z_lt_m2, z_le_m2, z_eq_m, z_ne_m, zn_div, z_a31, zn_shl, zn_shr, z_bq_T, z_bq_F, z_bl_T, nL_0, nL_1, h.1, B_P_nothingThere]
theorem Q_fallen (d : Nat) {F : zFl} {B : zM} {k q : Int32} (h : rF F B) (w : wFl F) : z_den zQ (d + 2) mQ_fallen [.ref 15, .int k, .int q] B = some (some (.int (oFallen F k q).1), z_wI B 15 0 (oFallen F k q).2) := by
  unfold oFallen
  have h1 := w.1
  rw [B_Q_fallen]
  rcases zn_cases k with hk | ⟨K, hK, rfl⟩
  · rw [pif_F (fun q => by omega)]
    simp (disch := omega) only [z_bV_some, z_bI_some, z_bJ_some, z_bD_some, z_bR_some, cond_true, cond_false, Bool.and_true, Bool.true_and, Bool.not_false, Bool.not_true, Bool.and_self, Bool.or_true, Bool.false_or, Bool.true_or, zn_ok, zn_ok0, zn_N, zn_add, zn_mul, zn_sub, z_lt_T, z_lt_F, z_le_T, z_le_F, z_eq_T, z_ne_F, z_eq_F, z_ne_T, z_ix_T, z_lt_m, z_le_m, z_lt_m2, z_le_m2, z_eq_m, z_ne_m, zn_div, z_a31, zn_shl, zn_shr, z_bq_T, z_bq_F, z_bl_T, nL_0, B_Q_no]
  have tK' := zn_toInt hK
  by_cases gQ : 0 ≤ q.toInt ∧ q.toInt ≤ 1
  rotate_left
  · rw [pif_F (fun q => gQ q.2)]
    have ew := Q_within_F (d := d) (x := q) (a := 0) (n := 1) (M := B) (by omega) (by omega) gQ
    simp (disch := omega) only [z_bV_some, z_bI_some, z_bJ_some, z_bD_some, z_bR_some, cond_true, cond_false, Bool.and_true, Bool.true_and, Bool.not_false, Bool.not_true, Bool.and_self, Bool.or_true, Bool.false_or, Bool.true_or, zn_ok, zn_ok0, zn_N, zn_add, zn_mul, zn_sub, z_lt_T, z_lt_F, z_le_T, z_le_F, z_eq_T, z_ne_F, z_eq_F, z_ne_T, z_ix_T, z_lt_m, z_le_m, z_lt_m2, z_le_m2, z_eq_m, z_ne_m, zn_div, z_a31, zn_shl, zn_shr, z_bq_T, z_bq_F, z_bl_T, nL_0, nL_1, ew, B_Q_no]
  have ew := Q_within_T (d := d) (x := q) (a := 0) (n := 1) (M := B) (by omega) (by omega) gQ
  rw [pif_T ⟨by omega, gQ⟩, zn_N hK]
  obtain ⟨Q, hQ, rfl⟩ := zn_ex gQ.1
  rw [zn_toInt hQ] at gQ
  by_cases g : K < F.1
  · obtain ⟨b1, b2⟩ := h.2 K g
    rw [pif_T (by omega)]
    rcases (show Q = 0 ∨ Q = 1 by omega) with rfl | rfl
    · rw [if_pos rfl]
      simp (disch := omega) only [z_bV_some, z_bI_some, z_bJ_some, z_bD_some, z_bR_some, cond_true, cond_false, Bool.and_true, Bool.true_and, Bool.not_false, Bool.not_true, Bool.and_self, Bool.or_true, Bool.false_or, Bool.true_or, zn_ok, zn_ok0, zn_N, zn_add, zn_mul, zn_sub, z_lt_T, z_lt_F, z_le_T, z_le_F, z_eq_T, z_ne_F, z_eq_F, z_ne_T, z_ix_T, z_lt_m, z_le_m, z_lt_m2, z_le_m2, z_eq_m, z_ne_m, zn_div, z_a31, zn_shl, zn_shr, z_bq_T, z_bq_F, z_bl_T, nL_0, nL_1, ew, h.1, b1, B_Q_well]
    · rw [if_neg (fun e => by have := zn_inj (by omega) (by omega) e; omega)]
      simp (disch := omega) only [z_bV_some, z_bI_some, z_bJ_some, z_bD_some, z_bR_some, cond_true, cond_false, Bool.and_true, Bool.true_and, Bool.not_false, Bool.not_true, Bool.and_self, Bool.or_true, Bool.false_or, Bool.true_or, zn_ok, zn_ok0, zn_N, zn_add, zn_mul, zn_sub, z_lt_T, z_lt_F, z_le_T, z_le_F, z_eq_T, z_ne_F, z_eq_F, z_ne_T, z_ix_T, z_lt_m, z_le_m, z_lt_m2, z_le_m2, z_eq_m, z_ne_m, zn_div, z_a31, zn_shl, zn_shr, z_bq_T, z_bq_F, z_bl_T, nL_0, nL_1, ew, h.1, b2, B_Q_well]
  · rw [pif_F (by omega)]
    simp (disch := omega) only [z_bV_some, z_bI_some, z_bJ_some, z_bD_some, z_bR_some, cond_true, cond_false, Bool.and_true, Bool.true_and, Bool.not_false, Bool.not_true, Bool.and_self, Bool.or_true, Bool.false_or, Bool.true_or, zn_ok, zn_ok0, zn_N, zn_add, zn_mul, zn_sub, z_lt_T, z_lt_F, z_le_T, z_le_F, z_eq_T, z_ne_F, z_eq_F, z_ne_T, z_ix_T, z_lt_m, z_le_m, z_lt_m2, z_le_m2, z_eq_m, z_ne_m, zn_div, z_a31, zn_shl, zn_shr, z_bq_T, z_bq_F, z_bl_T, nL_0, nL_1, ew, h.1, B_Q_well]
/-- what falls off one element -/
def ofP (n : Int32) (t : Nat) : Prop := (t : Int) + n.toInt < 0 ∨ 8 ≤ (t : Int) + n.toInt
def btP (h : Int32) (t : Nat) : Prop := (h >>> zn t) &&& zn 1 = zn 1
noncomputable def nfF (h n : Int32) (k : Nat) : Nat → Nat → zFl → zFl
  | 0, _, F => F
  | m + 1, t, F => nfF h n k m (t + 1) (pif (ofP n t ∧ btP h t) (puF F k t) F)
noncomputable def ofR (n : Int32) : Nat → Nat → Nat
  | 0, _ => 0
  | m + 1, t => pif (ofP n t) 1 0 + ofR n m (t + 1)
theorem ofR_le (n : Int32) : ∀ m t, ofR n m t ≤ m
  | 0, _ => Nat.le_refl _
  | m + 1, t => by
    unfold ofR
    have := ofR_le n m (t + 1)
    by_cases g : ofP n t
    · rw [pif_T g]; omega
    · rw [pif_F g]; omega
theorem ofR_sp (n : Int32) : ∀ m t, ofR n (m + 1) t = ofR n m t + pif (ofP n (t + m)) 1 0
  | 0, t => by unfold ofR; unfold ofR; rw [Nat.add_zero, Nat.zero_add]; rfl
  | m + 1, t => by
    have e : ofR n (m + 1 + 1) t = pif (ofP n t) 1 0 + ofR n (m + 1) (t + 1) := rfl
    rw [e, ofR_sp n m (t + 1)]
    have e2 : ofR n (m + 1) t = pif (ofP n t) 1 0 + ofR n m (t + 1) := rfl
    rw [e2, show t + 1 + m = t + (m + 1) by omega]
    omega
theorem ofR_7 {n : Int32} (h1 : -7 ≤ n.toInt) (h2 : n.toInt ≤ 7) : ofR n 8 0 ≤ 7 := by
  by_cases g : 0 ≤ n.toInt
  · have e : ofR n 8 0 = pif (ofP n 0) 1 0 + ofR n 7 1 := rfl
    rw [e, pif_F (by unfold ofP; omega)]
    have := ofR_le n 7 1
    omega
  · rw [ofR_sp n 7 0, pif_F (by unfold ofP; omega)]
    have := ofR_le n 7 0
    omega
theorem cF_pu {F : zFl} {A : zM} (h : cF F A) (e t : Nat) : cF (puF F e t) (z_wI (z_wI A 14 F.1 (zn (e * 8 + t))) 1 6 (zn (F.1 + 1))) := by
  refine ⟨by rw [zI_wI_s]; rfl, fun k hk => ?_⟩
  have hk : k < F.1 + 1 := hk
  show _ = zn ((if k = F.1 then e else F.2.1 k) * 8 + (if k = F.1 then t else F.2.2 k))
  rw [zI_wI_a (by omega)]
  by_cases g : k = F.1
  · rw [if_pos g, if_pos g, g, zI_wI_s]
  · rw [if_neg g, if_neg g, zI_wI_k g]; exact h.2 k (by omega)
theorem rF_pu {F : zFl} {B : zM} (h : rF F B) (e t : Nat) : rF (puF F e t) (z_wI (z_wI (z_wI B 54 F.1 (zn e)) 55 F.1 (zn t)) 15 65 (zn (F.1 + 1))) := by
  refine ⟨by rw [zI_wI_s]; rfl, fun k hk => ?_⟩
  have hk : k < F.1 + 1 := hk
  show _ = zn (if k = F.1 then e else F.2.1 k) ∧ _ = zn (if k = F.1 then t else F.2.2 k)
  by_cases g : k = F.1
  · rw [if_pos g, if_pos g, g]
    constructor
    · rw [zI_wI_a (by omega), zI_wI_a (by omega), zI_wI_s]
    · rw [zI_wI_a (by omega), zI_wI_s]
  · rw [if_neg g, if_neg g]
    constructor
    · rw [zI_wI_a (by omega), zI_wI_a (by omega), zI_wI_k g]; exact (h.2 k (by omega)).1
    · rw [zI_wI_a (by omega), zI_wI_k g, zI_wI_a (by omega)]; exact (h.2 k (by omega)).2
theorem wFl_pu {F : zFl} (w : wFl F) {e t : Nat} (h : F.1 < 1792) (he : e < 256) (ht : t < 8) : wFl (puF F e t) := by
  refine ⟨h, fun k hk => ?_⟩
  have hk : k < F.1 + 1 := hk
  show (if k = F.1 then e else F.2.1 k) < 256 ∧ (if k = F.1 then t else F.2.2 k) < 8
  by_cases g : k = F.1
  · rw [if_pos g, if_pos g]; exact ⟨he, ht⟩
  · rw [if_neg g, if_neg g]; exact w.2 k (by omega)
theorem nf_w {h n : Int32} {k : Nat} (hk : k < 256) : ∀ (m t : Nat) (F : zFl), t + m = 8 → wFl F → F.1 + ofR n m t ≤ 1792 → wFl (nfF h n k m t F) ∧ (nfF h n k m t F).1 ≤ F.1 + ofR n m t
  | 0, t, F, _, w, _ => ⟨w, Nat.le_refl _⟩
  | m + 1, t, F, ht, w, hc => by
    have e : nfF h n k (m + 1) t F = nfF h n k m (t + 1) (pif (ofP n t ∧ btP h t) (puF F k t) F) := rfl
    have e2 : ofR n (m + 1) t = pif (ofP n t) 1 0 + ofR n m (t + 1) := rfl
    rw [e]
    rw [e2] at hc ⊢
    by_cases g : ofP n t
    · rw [pif_T g] at hc ⊢
      by_cases g2 : btP h t
      · rw [pif_T ⟨g, g2⟩]
        have := nf_w (h := h) (n := n) hk m (t + 1) (puF F k t) (by omega) (wFl_pu w (by omega) hk (by omega)) (by show F.1 + 1 + ofR n m (t + 1) ≤ 1792; omega)
        refine ⟨this.1, Nat.le_trans this.2 ?_⟩
        show F.1 + 1 + ofR n m (t + 1) ≤ F.1 + (1 + ofR n m (t + 1))
        omega
      · rw [pif_F (fun q => g2 q.2)]
        have := nf_w (h := h) (n := n) hk m (t + 1) F (by omega) w (by omega)
        exact ⟨this.1, by omega⟩
    · rw [pif_F g] at hc ⊢
      rw [pif_F (fun q => g q.1)]
      have := nf_w (h := h) (n := n) hk m (t + 1) F (by omega) w (by omega)
      exact ⟨this.1, by omega⟩
theorem L_Pfn (d : Nat) {h n : Int32} {k : Nat} (hk : k < 256) (h1 : -7 ≤ n.toInt) (h2 : n.toInt ≤ 7) : ∀ (m t : Nat) (F : zFl) (A : zM) (o : Option Value), t + m = 8 → cF F A → F.1 + ofR n m t ≤ 1792 → ∃ A', z_denF zQ (d + 1) mP_noteFallen (3, [some (.ref 1), some (.int (zn k)), some (.int h), some (.int n), some (.int (zn t)), o], [], A) = some (none, A') ∧ cF (nfF h n k m t F) A' ∧ zFr 0 0 (fun a k => (a = 1 ∧ k = 6) ∨ a = 14) A A'
  | 0, t, F, A, o, ht, hc, hl => by
    refine ⟨A, ?_, hc, zFr_refl _ _⟩
    rw [L_P_noteFallen_3]
    simp (disch := omega) only [z_bV_some, z_bI_some, z_bJ_some, z_bD_some, z_bR_some, cond_true, cond_false, Bool.and_true, Bool.true_and, Bool.not_false, Bool.not_true, Bool.and_self, Bool.or_true, Bool.false_or, Bool.true_or, zn_ok, zn_ok0, zn_N, zn_add, zn_mul, zn_sub, z_lt_T, z_lt_F, z_le_T, z_le_F, z_eq_T, z_ne_F, z_eq_F, z_ne_T, z_ix_T, z_lt_m, z_le_m, z_lt_m2, z_le_m2, z_eq_m, z_ne_m, zn_div, z_a31, zn_shl, zn_shr, z_bq_T, z_bq_F, z_bl_T, nL_8]
  | m + 1, t, F, A, o, ht, hc, hl => by
    have e : nfF h n k (m + 1) t F = nfF h n k m (t + 1) (pif (ofP n t ∧ btP h t) (puF F k t) F) := rfl
    have e2 : ofR n (m + 1) t = pif (ofP n t) 1 0 + ofR n m (t + 1) := rfl
    rw [e]
    rw [e2] at hl
    have tt : (zn t + n).toInt = t + n.toInt := by
      have := zn_toInt (n := t) (by omega)
      rw [tI_add (by omega) (by omega), this]
    have t0 : (zn 0).toInt = 0 := zn_toInt (by omega)
    have t8 : (zn 8).toInt = 8 := zn_toInt (by omega)
    have zb1 : z_eq (zn 1) (zn 0) = false := z_eq_F (by omega) (by omega) (by omega)
    by_cases g : ofP n t
    · rw [pif_T g] at hl
      by_cases g2 : btP h t
      · rw [pif_T ⟨g, g2⟩]
        have hb : z_ne ((h >>> zn t) &&& zn 1) (zn 1) = false := by rw [show (h >>> zn t) &&& zn 1 = zn 1 from g2]; exact z_ne_F _
        obtain ⟨A', i1, i2, i3⟩ := L_Pfn d (h := h) hk h1 h2 m (t + 1) (puF F k t) _ (some (.int (zn 1))) (by omega) (cF_pu hc k t) (by show F.1 + 1 + ofR n m (t + 1) ≤ 1792; omega)
        refine ⟨A', ?_, i2, zFr_trans (zFr_trans (zFr_wI (X := fun a k => (a = 1 ∧ k = 6) ∨ a = 14) (Or.inr rfl)) (zFr_wI (X := fun a k => (a = 1 ∧ k = 6) ∨ a = 14) (Or.inl ⟨rfl, rfl⟩)) (fun _ _ _ h => h)) i3 (fun _ _ _ h => h)⟩
        rw [L_P_noteFallen_3]
        rcases g with g | g
        · have z1 : z_lt (zn t + n) (zn 0) = true := z_lt_tt (by omega)
          simp (disch := omega) only [z_bV_some, z_bI_some, z_bJ_some, z_bD_some, z_bR_some, cond_true, cond_false, Bool.and_true, Bool.true_and, Bool.not_false, Bool.not_true, Bool.and_self, Bool.or_true, Bool.false_or, Bool.true_or, zn_ok, zn_ok0, zn_N, zn_add, zn_mul, zn_sub, z_lt_T, z_lt_F, z_le_T, z_le_F, z_eq_T, z_ne_F, z_eq_F, z_ne_T, z_ix_T, z_lt_m, z_le_m, z_lt_m2, z_le_m2, z_eq_m, z_ne_m, zn_div, z_a31, zn_shl, zn_shr, z_bq_T, z_bq_F, z_bl_T, nL_8, nL_0, nL_1, nL_31, nL_1792, z1, hb, hc.1, i1]
        · have z1 : z_lt (zn t + n) (zn 0) = false := z_lt_ff (by omega)
          have z2 : z_lt (zn t + n) (zn 8) = false := z_lt_ff (by omega)
          simp (disch := omega) only [z_bV_some, z_bI_some, z_bJ_some, z_bD_some, z_bR_some, cond_true, cond_false, Bool.and_true, Bool.true_and, Bool.not_false, Bool.not_true, Bool.and_self, Bool.or_true, Bool.false_or, Bool.true_or, zn_ok, zn_ok0, zn_N, zn_add, zn_mul, zn_sub, z_lt_T, z_lt_F, z_le_T, z_le_F, z_eq_T, z_ne_F, z_eq_F, z_ne_T, z_ix_T, z_lt_m, z_le_m, z_lt_m2, z_le_m2, z_eq_m, z_ne_m, zn_div, z_a31, zn_shl, zn_shr, z_bq_T, z_bq_F, z_bl_T, nL_8, nL_0, nL_1, nL_31, nL_1792, z1, z2, hb, hc.1, i1]
      · rw [pif_F (fun q => g2 q.2)]
        have hb : z_ne ((h >>> zn t) &&& zn 1) (zn 1) = true := z_ne_N g2
        obtain ⟨A', i1, i2, i3⟩ := L_Pfn d (h := h) hk h1 h2 m (t + 1) F A (some (.int (zn 1))) (by omega) hc (by omega)
        refine ⟨A', ?_, i2, i3⟩
        rw [L_P_noteFallen_3]
        rcases g with g | g
        · have z1 : z_lt (zn t + n) (zn 0) = true := z_lt_tt (by omega)
          simp (disch := omega) only [z_bV_some, z_bI_some, z_bJ_some, z_bD_some, z_bR_some, cond_true, cond_false, Bool.and_true, Bool.true_and, Bool.not_false, Bool.not_true, Bool.and_self, Bool.or_true, Bool.false_or, Bool.true_or, zn_ok, zn_ok0, zn_N, zn_add, zn_mul, zn_sub, z_lt_T, z_lt_F, z_le_T, z_le_F, z_eq_T, z_ne_F, z_eq_F, z_ne_T, z_ix_T, z_lt_m, z_le_m, z_lt_m2, z_le_m2, z_eq_m, z_ne_m, zn_div, z_a31, zn_shl, zn_shr, z_bq_T, z_bq_F, z_bl_T, nL_8, nL_0, nL_1, nL_31, nL_1792, z1, hb, i1]
        · have z1 : z_lt (zn t + n) (zn 0) = false := z_lt_ff (by omega)
          have z2 : z_lt (zn t + n) (zn 8) = false := z_lt_ff (by omega)
          simp (disch := omega) only [z_bV_some, z_bI_some, z_bJ_some, z_bD_some, z_bR_some, cond_true, cond_false, Bool.and_true, Bool.true_and, Bool.not_false, Bool.not_true, Bool.and_self, Bool.or_true, Bool.false_or, Bool.true_or, zn_ok, zn_ok0, zn_N, zn_add, zn_mul, zn_sub, z_lt_T, z_lt_F, z_le_T, z_le_F, z_eq_T, z_ne_F, z_eq_F, z_ne_T, z_ix_T, z_lt_m, z_le_m, z_lt_m2, z_le_m2, z_eq_m, z_ne_m, zn_div, z_a31, zn_shl, zn_shr, z_bq_T, z_bq_F, z_bl_T, nL_8, nL_0, nL_1, nL_31, nL_1792, z1, z2, hb, i1]
    · rw [pif_F g] at hl
      rw [pif_F (fun q => g q.1)]
      obtain ⟨A', i1, i2, i3⟩ := L_Pfn d (h := h) hk h1 h2 m (t + 1) F A (some (.int (zn 0))) (by omega) hc (by omega)
      refine ⟨A', ?_, i2, i3⟩
      unfold ofP at g
      have z1 : z_lt (zn t + n) (zn 0) = false := z_lt_ff (by omega)
      have z2 : z_lt (zn t + n) (zn 8) = true := z_lt_tt (by omega)
      rw [L_P_noteFallen_3]
      simp (disch := omega) only [z_bV_some, z_bI_some, z_bJ_some, z_bD_some, z_bR_some, cond_true, cond_false, Bool.and_true, Bool.true_and, Bool.not_false, Bool.not_true, Bool.and_self, Bool.or_true, Bool.false_or, Bool.true_or, zn_ok, zn_ok0, zn_N, zn_add, zn_mul, zn_sub, z_lt_T, z_lt_F, z_le_T, z_le_F, z_eq_T, z_ne_F, z_eq_F, z_ne_T, z_ix_T, z_lt_m, z_le_m, z_lt_m2, z_le_m2, z_eq_m, z_ne_m, zn_div, z_a31, zn_shl, zn_shr, z_bq_T, z_bq_F, z_bl_T, nL_8, nL_0, nL_1, nL_31, nL_1792, z1, z2, i1]
