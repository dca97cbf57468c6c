/-! S LEVEL: frames; a strip's sum, its head, what is found of it. -/
def zsm : List (Nat × Nat) → Nat
  | [] => 0
  | h :: r => h.2 + zsm r
theorem zsm_app (l m : List (Nat × Nat)) : zsm (l ++ m) = zsm l + zsm m := by
  induction l with
  | nil => simp [zsm]
  | cons x r ih => simp [zsm, ih]; omega
def zFr (c s : Nat) (X : Nat → Nat → Prop) (A A' : zM) : Prop := (∃ l, A'.1 = A.1 ++ l ∧ l.length ≤ c ∧ zsm l ≤ s) ∧ ∀ a k, a < z_new zQ A → ¬ X a k → zI A' a k = zI A a k ∧ zP zQ A' a k = zP zQ A a k ∧ zD A' a k = zD A a k
theorem zFr_refl (X : Nat → Nat → Prop) (A : zM) : zFr 0 0 X A A := ⟨⟨[], by simp, by simp, by simp [zsm]⟩, fun _ _ _ _ => ⟨rfl, rfl, rfl⟩⟩
theorem zFr_ge {c s : Nat} {X : Nat → Nat → Prop} {A A' : zM} (h : zFr c s X A A') : z_new zQ A ≤ z_new zQ A' := by
  obtain ⟨⟨l, e, -⟩, -⟩ := h
  unfold z_new
  rw [e, List.length_append]
  omega
theorem zFr_trans {c1 s1 c2 s2 : Nat} {X Y : Nat → Nat → Prop} {A B C : zM} (h1 : zFr c1 s1 X A B) (h2 : zFr c2 s2 Y B C) (hXY : ∀ a k, a < z_new zQ A → Y a k → X a k) : zFr (c1 + c2) (s1 + s2) X A C := by
  have hge := zFr_ge h1
  obtain ⟨⟨l, e, l1, l2⟩, h1⟩ := h1
  obtain ⟨⟨m, e', m1, m2⟩, h2⟩ := h2
  refine ⟨⟨l ++ m, by rw [e', e, List.append_assoc], by rw [List.length_append]; omega, by rw [zsm_app]; omega⟩, fun a k ha hx => ?_⟩
  obtain ⟨a1, a2, a3⟩ := h1 a k ha hx
  obtain ⟨b1, b2, b3⟩ := h2 a k (by omega) (fun hy => hx (hXY a k ha hy))
  exact ⟨b1.trans a1, b2.trans a2, b3.trans a3⟩
theorem zFr_mono {c s c' s' : Nat} {X Y : Nat → Nat → Prop} {A B : zM} (h : zFr c s X A B) (hc : c ≤ c') (hs : s ≤ s') (hXY : ∀ a k, X a k → Y a k) : zFr c' s' Y A B := by
  obtain ⟨⟨l, e, l1, l2⟩, h1⟩ := h
  exact ⟨⟨l, e, by omega, by omega⟩, fun a k ha hx => h1 a k ha (fun hy => hx (hXY a k hy))⟩
theorem zFr_wI {X : Nat → Nat → Prop} {A : zM} {a k : Nat} {v : Int32} (h : X a k) : zFr 0 0 X A (z_wI A a k v) := by
  refine ⟨⟨[], by simp [z_wI], by simp, by simp [zsm]⟩, fun a' k' _ hx => ⟨?_, rfl, rfl⟩⟩
  rw [zI_wI, if_neg]
  rintro ⟨rfl, rfl⟩
  exact hx h
theorem zFr_wD {X : Nat → Nat → Prop} {A : zM} {a k : Nat} {v : UInt64} (h : X a k) : zFr 0 0 X A (z_wD A a k v) := by
  refine ⟨⟨[], by simp [z_wD], by simp, by simp [zsm]⟩, fun a' k' _ hx => ⟨rfl, rfl, ?_⟩⟩
  rw [zD_wD, if_neg]
  rintro ⟨rfl, rfl⟩
  exact hx h
theorem zFr_wP {X : Nat → Nat → Prop} {A : zM} {a k v : Nat} (h : X a k) : zFr 0 0 X A (z_wP A a k v) := by
  refine ⟨⟨[], by simp [z_wP], by simp, by simp [zsm]⟩, fun a' k' _ hx => ⟨rfl, ?_, rfl⟩⟩
  by_cases e : a' = a
  · subst e
    exact zP_wP_k (fun e => hx (by rw [e]; exact h))
  · exact zP_wP_a e
theorem zFr_put {X : Nat → Nat → Prop} {A : zM} {a lo n : Nat} {g : Nat → Int32} (h : ∀ i, lo ≤ i → i < lo + n → X a i) : zFr 0 0 X A (z_put A a lo n g) := by
  refine ⟨⟨[], by simp [z_put, z_uI], by simp, by simp [zsm]⟩, fun a' k' _ hx => ⟨?_, rfl, rfl⟩⟩
  by_cases e : a' = a
  · subst e
    rw [zI_put_s, if_neg]
    rintro ⟨h1, h2⟩
    exact hx (h _ h1 h2)
  · exact zI_put_a e
theorem zFr_uI {X : Nat → Nat → Prop} {A : zM} {a : Nat} {f : Nat → Int32} (h : ∀ i, X a i) : zFr 0 0 X A (z_uI A a f) := by
  refine ⟨⟨[], by simp [z_uI], by simp, by simp [zsm]⟩, fun a' k' _ hx => ⟨?_, rfl, rfl⟩⟩
  by_cases e : a' = a
  · subst e; exact absurd (h _) hx
  · exact zI_uI_a e
theorem zFr_cpy {X : Nat → Nat → Prop} {A : zM} {a b sp dp n : Nat} (h : ∀ i, dp ≤ i → i < dp + n → X b i) : zFr 0 0 X A (z_cpy A a b sp dp n) := by
  refine ⟨⟨[], by simp [z_cpy], by simp, by simp [zsm]⟩, fun a' k' _ hx => ⟨?_, rfl, rfl⟩⟩
  rw [zI_cpy, if_neg]
  rintro ⟨rfl, h1, h2⟩
  exact hx (h _ h1 h2)
theorem zFr_nw (X : Nat → Nat → Prop) (A : zM) (h : Nat × Nat) : zFr 1 h.2 X A (z_nw zQ A h) := by
  refine ⟨⟨[h], rfl, by simp, by simp [zsm]⟩, fun a' k' ha _ => ⟨zI_nw_o (by omega), zP_nw_o (by omega), zD_nw_o (by omega)⟩⟩
theorem zFr_hd {c s : Nat} {X : Nat → Nat → Prop} {A A' : zM} (h : zFr c s X A A') {a : Nat} {g : Nat × Nat} (e : z_hd zQ A a = some g) : z_hd zQ A' a = some g := by
  obtain ⟨⟨l, el, -⟩, -⟩ := h
  rw [z_hd_app el (z_hd_lt e)]
  exact e
theorem zFr_I {c s : Nat} {X : Nat → Nat → Prop} {A A' : zM} (h : zFr c s X A A') {a : Nat} (k : Nat) (ha : a < z_new zQ A) (hx : ¬ X a k) : zI A' a k = zI A a k := (h.2 a k ha hx).1
theorem zFr_P {c s : Nat} {X : Nat → Nat → Prop} {A A' : zM} (h : zFr c s X A A') {a : Nat} (k : Nat) (ha : a < z_new zQ A) (hx : ¬ X a k) : zP zQ A' a k = zP zQ A a k := (h.2 a k ha hx).2.1
theorem zFr_D {c s : Nat} {X : Nat → Nat → Prop} {A A' : zM} (h : zFr c s X A A') {a : Nat} (k : Nat) (ha : a < z_new zQ A) (hx : ¬ X a k) : zD A' a k = zD A a k := (h.2 a k ha hx).2.2
/-- where a strip's methods write -/
def xS (a b : Nat) : Nat → Nat → Prop := fun a' k => a' = b ∨ (a' = a ∧ (k = 4 ∨ k = 5 ∨ k = 6))
/-- another strip stays -/
theorem cT_fr {c s : Nat} {X : Nat → Nat → Prop} {A A' : zM} {a : Nat} {T : zT} (hf : zFr c s X A A') (h : cT A a T) (h1 : ∀ k, ¬ X a k) (h2 : ∀ k, ¬ X (zP zQ A a 4) k) : cT A' a T ∧ zP zQ A' a 4 = zP zQ A a 4 := by
  obtain ⟨e1, k0, k1, k2, k3, k5, k6, ⟨n, e2, hc1, hc2, hc3⟩, hb⟩ := h
  have hp := zFr_P hf 4 (z_hd_lt e1) (h1 4)
  refine ⟨⟨zFr_hd hf e1, ?_, ?_, ?_, ?_, ?_, ?_, ⟨n, ?_, hc1, hc2, hc3⟩, fun i hi => ?_⟩, hp⟩
  · rw [zFr_I hf _ (z_hd_lt e1) (h1 _)]; exact k0
  · rw [zFr_I hf _ (z_hd_lt e1) (h1 _)]; exact k1
  · rw [zFr_I hf _ (z_hd_lt e1) (h1 _)]; exact k2
  · rw [zFr_I hf _ (z_hd_lt e1) (h1 _)]; exact k3
  · rw [zFr_I hf _ (z_hd_lt e1) (h1 _)]; exact k5
  · rw [zFr_I hf _ (z_hd_lt e1) (h1 _)]; exact k6
  · rw [hp]; exact zFr_hd hf e2
  · rw [hp, zFr_I hf _ (z_hd_lt e2) (h2 _)]; exact hb i hi
/-- the sum -/
noncomputable def gF (f : Nat → Int32) : Nat → Nat → Int32 → Int32
  | _, 0, s => s
  | i, r + 1, s => gF f (i + 1) r (if i < 5 ∨ 9 ≤ i then s * zn 31 + f i else s)
theorem gF_9 (f : Nat → Int32) : ∀ (r i : Nat) (s : Int32), 9 ≤ i → gF f i r s = fB f i r s
  | 0, _, _, _ => rfl
  | r + 1, i, s, h => by
    unfold gF fB
    rw [if_pos (Or.inr h)]
    exact gF_9 f r (i + 1) _ (by omega)
theorem gF_5 (f : Nat → Int32) : ∀ (r i : Nat) (s : Int32), 5 ≤ i → i + r ≤ 9 → gF f i r s = s
  | 0, _, _, _, _ => rfl
  | r + 1, i, s, h, h2 => by
    unfold gF
    rw [if_neg (by omega)]
    exact gF_5 f r (i + 1) _ (by omega) (by omega)
theorem gF_add (f : Nat → Int32) : ∀ (m n i : Nat) (s : Int32), gF f i (m + n) s = gF f (i + m) n (gF f i m s)
  | 0, n, i, s => by rw [Nat.zero_add]; rfl
  | m + 1, n, i, s => by
    rw [show m + 1 + n = (m + n) + 1 by omega]
    unfold gF
    rw [gF_add f m n (i + 1) _, show i + 1 + m = i + (m + 1) by omega]
    cases n <;> rfl
theorem gF_all (f : Nat → Int32) (n : Nat) (h : 5 ≤ n) (s : Int32) : gF f 0 n s = fB f 9 (n - 9) (fB f 0 5 s) := by
  have e5 : gF f 0 5 s = fB f 0 5 s := rfl
  by_cases h9 : n ≤ 9
  · rw [show n = 5 + (n - 5) by omega, gF_add, gF_5 _ _ _ _ (by omega) (by omega), e5, show 5 + (n - 5) - 9 = 0 by omega]
    rfl
  · rw [show n = 5 + (4 + (n - 9)) by omega, gF_add, gF_add, gF_5 _ 4 _ _ (by omega) (by omega), gF_9 _ _ _ _ (by omega), e5, show 5 + (4 + (n - 9)) - 9 = n - 9 by omega]
theorem L_sn (d a : Nat) (A : zM) (n c : Nat) (h1 : z_hd zQ A a = some (9, 7)) (h2 : z_hd zQ A (zP zQ A a 4) = some (12, c)) (h5 : zI A a 5 = zn n) (hn : n ≤ c) (hc : c ≤ 1033) : ∀ (r i : Nat) (s : Int32), i + r = n →
    z_denF zQ (d + 1) mS_sumNow (4, [some (.ref a), some (.int s), some (.int (zn i))], [], A) = some (some (.int (gF (zI A (zP zQ A a 4)) i r s)), A)
  | 0, i, s, hi => by
    rw [L_S_sumNow_4, h5]
    simp (disch := omega) only [z_bV_some, z_bI_some, z_bJ_some, z_bD_some, z_bR_some, cond_true, cond_false, Bool.and_true, Bool.true_and, Bool.not_false, Bool.not_true, Bool.and_self, Bool.or_true, Bool.false_or, Bool.true_or, zn_ok, zn_ok0, zn_N, zn_add, zn_mul, zn_sub, z_lt_T, z_lt_F, z_le_T, z_le_F, z_eq_T, z_ne_F, z_eq_F, z_ne_T, z_ix_T, z_lt_m, z_le_m, z_lt_m2, z_le_m2, z_eq_m, z_ne_m, zn_div, z_a31, zn_shl, zn_shr, z_bq_T, z_bq_F, z_bl_T, c9 h1]
    rfl
  | r + 1, i, s, hi => by
    rw [L_S_sumNow_4, h5]
    have ih := fun s => L_sn d a A n c h1 h2 h5 hn hc r (i + 1) s (by omega)
    by_cases g1 : i < 5
    · simp (disch := omega) only [z_bV_some, z_bI_some, z_bJ_some, z_bD_some, z_bR_some, cond_true, cond_false, Bool.and_true, Bool.true_and, Bool.not_false, Bool.not_true, Bool.and_self, Bool.or_true, Bool.false_or, Bool.true_or, zn_ok, zn_ok0, zn_N, zn_add, zn_mul, zn_sub, z_lt_T, z_lt_F, z_le_T, z_le_F, z_eq_T, z_ne_F, z_eq_F, z_ne_T, z_ix_T, z_lt_m, z_le_m, z_lt_m2, z_le_m2, z_eq_m, z_ne_m, zn_div, z_a31, zn_shl, zn_shr, z_bq_T, z_bq_F, z_bl_T, nL_5, nL_31, nL_1, c9 h1, z_ia_of h2, ih]
      rw [show gF _ i (r + 1) s = gF _ (i + 1) r _ from rfl, if_pos (Or.inl g1)]
    · by_cases g2 : i < 9
      · simp (disch := omega) only [z_bV_some, z_bI_some, z_bJ_some, z_bD_some, z_bR_some, cond_true, cond_false, Bool.and_true, Bool.true_and, Bool.not_false, Bool.not_true, Bool.and_self, Bool.or_true, Bool.false_or, Bool.true_or, zn_ok, zn_ok0, zn_N, zn_add, zn_mul, zn_sub, z_lt_T, z_lt_F, z_le_T, z_le_F, z_eq_T, z_ne_F, z_eq_F, z_ne_T, z_ix_T, z_lt_m, z_le_m, z_lt_m2, z_le_m2, z_eq_m, z_ne_m, zn_div, z_a31, zn_shl, zn_shr, z_bq_T, z_bq_F, z_bl_T, nL_5, nL_9, nL_31, nL_1, c9 h1, z_ia_of h2, ih]
        rw [show gF _ i (r + 1) s = gF _ (i + 1) r _ from rfl, if_neg (by omega)]
      · simp (disch := omega) only [z_bV_some, z_bI_some, z_bJ_some, z_bD_some, z_bR_some, cond_true, cond_false, Bool.and_true, Bool.true_and, Bool.not_false, Bool.not_true, Bool.and_self, Bool.or_true, Bool.false_or, Bool.true_or, zn_ok, zn_ok0, zn_N, zn_add, zn_mul, zn_sub, z_lt_T, z_lt_F, z_le_T, z_le_F, z_eq_T, z_ne_F, z_eq_F, z_ne_T, z_ix_T, z_lt_m, z_le_m, z_lt_m2, z_le_m2, z_eq_m, z_ne_m, zn_div, z_a31, zn_shl, zn_shr, z_bq_T, z_bq_F, z_bl_T, nL_5, nL_9, nL_31, nL_1, c9 h1, z_ia_of h2, ih]
        rw [show gF _ i (r + 1) s = gF _ (i + 1) r _ from rfl, if_pos (by omega)]
theorem E_S_sumNow (d a : Nat) (A : zM) (T : zT) (h : cT A a T) (hw : w0 T) (h5 : 5 ≤ tH T) : z_den zQ (d + 1) mS_sumNow [.ref a] A = some (some (.int (tM T)), A) := by
  obtain ⟨h1, k0, k1, k2, k3, k5, k6, ⟨c, h2, hc1, hc2, hc3⟩, hb⟩ := h
  have hd : tZ T = tH T + tS T * tW T := rfl
  rw [B_S_sumNow, nL_1, nL_0, L_sn d a A (tZ T) c h1 h2 k5 hc1 hc3 (tZ T) 0 _ (by omega), gF_all _ _ (by omega)]
  unfold tM
  have e : tZ T - 9 = tS T * tW T := by
    by_cases h0 : 0 < tS T
    · have := hw.2.2 h0; omega
    · have : tS T = 0 := by omega
      rw [this] at hd ⊢
      have := hw.1
      omega
  have f1 : fB (zI A (zP zQ A a 4)) 0 5 (zn 1) = fB (tB T) 0 5 (zn 1) := fB_congr _ _ _ _ _ (fun i i1 i2 => by rw [hb i (by omega)]; unfold tY; rw [if_pos (by omega)])
  have f2 : ∀ s, fB (zI A (zP zQ A a 4)) 9 (tS T * tW T) s = fB (tY T) 9 (tS T * tW T) s := by
    intro s
    refine fB_congr _ _ _ _ _ (fun i i1 i2 => hb i ?_)
    have : 0 < tS T := by
      by_cases h0 : 0 < tS T
      · exact h0
      · have : tS T = 0 := by omega
        rw [this, Nat.zero_mul] at i2; omega
    have := hw.2.2 this
    omega
  rw [e, f1, f2]
theorem tM_congr {T T' : zT} (e1 : tK T' = tK T) (e2 : tS T' = tS T) (e3 : ∀ i, i < 5 → tB T' i = tB T i) (e4 : tE T' = tE T) : tM T' = tM T := by
  unfold tM
  have hW : tW T' = tW T := by unfold tW; rw [e1]
  rw [hW, e2, fB_congr (tB T') (tB T) 5 0 _ (fun i _ i2 => e3 i (by omega))]
  refine fB_congr _ _ _ _ _ (fun i i1 _ => ?_)
  unfold tY
  rw [if_neg (by omega), if_neg (by omega), hW, e4]
/-- a head with other bytes -/
noncomputable def setB (T : zT) (f : Nat → Int32) : zT := (tK T, tN T, tU T, tL T, 9, tS T, f, tE T)
theorem tY_setB (T : zT) (f : Nat → Int32) (i : Nat) : tY (setB T f) i = if i < 9 then f i else tY T i := by
  unfold tY
  by_cases h : i < 9
  · rw [if_pos h, if_pos h]; rfl
  · rw [if_neg h, if_neg h, if_neg h]; rfl
theorem tZ_setB (T : zT) (f : Nat → Int32) : tZ (setB T f) = 9 + tS T * tW T := rfl
theorem cT_setB {A : zM} {a : Nat} {T : zT} {f : Nat → Int32} {lo n : Nat} {g : Nat → Int32} (h : cT A a (setB T f)) (hl : lo + n ≤ 9) : cT (z_put A (zP zQ A a 4) lo n g) a (setB T (fun i => if lo ≤ i ∧ i < lo + n then g i else f i)) := by
  refine cT_put h rfl rfl rfl rfl rfl (fun i hi => ?_)
  rw [tY_setB, tY_setB]
  by_cases h9 : i < 9
  · rw [if_pos h9, if_pos h9]
  · rw [if_neg h9, if_neg h9, if_neg (by omega)]
theorem cT_congr {A : zM} {a : Nat} {T T' : zT} (h : cT A a T) (e1 : tK T' = tK T) (e2 : tN T' = tN T) (e3 : tU T' = tU T) (e4 : tL T' = tL T) (e5 : tZ T' = tZ T) (hy : ∀ i, i < tZ T → tY T' i = tY T i) : cT A a T' := by
  obtain ⟨h1, k0, k1, k2, k3, k5, k6, hc, hb⟩ := h
  unfold cT
  rw [e1, e2, e3, e4, e5]
  exact ⟨h1, k0, k1, k2, k3, k5, k6, hc, fun i hi => by rw [hy i hi]; exact hb i hi⟩
theorem tK_setB (T : zT) (f : Nat → Int32) : tK (setB T f) = tK T := rfl
theorem tN_setB (T : zT) (f : Nat → Int32) : tN (setB T f) = tN T := rfl
theorem tU_setB (T : zT) (f : Nat → Int32) : tU (setB T f) = tU T := rfl
theorem tL_setB (T : zT) (f : Nat → Int32) : tL (setB T f) = tL T := rfl
theorem tS_setB (T : zT) (f : Nat → Int32) : tS (setB T f) = tS T := rfl
theorem tE_setB (T : zT) (f : Nat → Int32) : tE (setB T f) = tE T := rfl
theorem tB_setB (T : zT) (f : Nat → Int32) : tB (setB T f) = f := rfl
theorem tK_h9 (T : zT) : tK (h9F T) = tK T := rfl
theorem tS_h9 (T : zT) : tS (h9F T) = tS T := rfl
theorem tE_h9 (T : zT) : tE (h9F T) = tE T := rfl
theorem tB_h9 (T : zT) : tB (h9F T) = h5F T := rfl
theorem tK_seal (T : zT) : tK (sealT T) = tK T := rfl
theorem tN_seal (T : zT) : tN (sealT T) = tN T := rfl
theorem tU_seal (T : zT) : tU (sealT T) = tU T := rfl
theorem tL_seal (T : zT) : tL (sealT T) = tL T := rfl
theorem tS_seal (T : zT) : tS (sealT T) = tS T := rfl
theorem tH_seal (T : zT) : tH (sealT T) = 9 := rfl
theorem tE_seal (T : zT) : tE (sealT T) = tE T := rfl
theorem tZ_seal (T : zT) : tZ (sealT T) = 9 + tS T * tW T := rfl
theorem tB_seal (T : zT) (i : Nat) : tB (sealT T) i = if i < 5 then h5F T i else ebF (tM (h9F T)) (8 - i) := rfl
theorem tY_seal (T : zT) (i : Nat) : tY (sealT T) i = if i < 9 then tB (sealT T) i else tY T i := by
  unfold tY
  by_cases h9 : i < 9
  · rw [if_pos h9, if_pos h9]
  · rw [if_neg h9, if_neg h9, if_neg h9]; rfl
theorem E_S_writeHead (d a : Nat) (A : zM) (T : zT) (h : cT A a T) (hw : wT T) : ∃ A', z_den zQ (d + 2) mS_writeHead [.ref a] A = some (none, A') ∧ cT A' a (sealT T) ∧ zFr 0 0 (xS a (zP zQ A a 4)) A A' ∧ zP zQ A' a 4 = zP zQ A a 4 := by
  have hz := tZ_le hw
  have hWW := wT_W hw
  have hcT := h
  obtain ⟨h1, k0, k1, k2, k3, k5, k6, ⟨c, h2, hc1, hc2, hc3⟩, hb⟩ := h
  have hd : tZ T = tH T + tS T * tW T := rfl
  have hab : a ≠ zP zQ A a 4 := fun e => by rw [← e, h1] at h2; cases h2
  have hZ : (bif z_lt (zn (tZ T)) (zn 9) then zn 9 else zn (tZ T)) = zn (9 + tS T * tW T) := by
    by_cases h0 : 0 < tS T
    · have := hw.2.2.2.2.2.1 h0
      rw [z_lt_F (by omega) (by omega)]
      show zn (tZ T) = _
      rw [hd, this]
    · have : tS T = 0 := by omega
      rw [this] at hd ⊢
      have := hw.2.2.2.1
      by_cases h9 : tZ T < 9
      · rw [z_lt_T (by omega) (by omega)]; show zn 9 = _; rw [Nat.zero_mul]
      · rw [z_lt_F (by omega) (by omega)]; show zn (tZ T) = _; rw [Nat.zero_mul] at *; congr 1; omega
  have hz2 : 9 + tS T * tW T ≤ c := by
    by_cases h0 : 0 < tS T
    · have := hw.2.2.2.2.2.1 h0; omega
    · have : tS T = 0 := by omega
      rw [this, Nat.zero_mul]; omega
  have b0 : cT (z_wI A a 5 (zn (9 + tS T * tW T))) a (setB T (zI A (zP zQ A a 4))) := by
    refine ⟨h1, ?_, ?_, ?_, ?_, ?_, ?_, ⟨c, h2, hz2, hc2, hc3⟩, fun i hi => ?_⟩
    · rw [zI_wI_k (by omega)]; exact k0
    · rw [zI_wI_k (by omega)]; exact k1
    · rw [zI_wI_k (by omega)]; exact k2
    · rw [zI_wI_k (by omega)]; exact k3
    · rw [zI_wI_s]; rfl
    · rw [zI_wI_k (by omega)]; exact k6
    · rw [zP_wI, zI_wI_a (fun e => hab e.symm), tY_setB]
      by_cases h9 : i < 9
      · rw [if_pos h9]
      · rw [if_neg h9]
        refine hb i ?_
        have : tZ (setB T (zI A (zP zQ A a 4))) = 9 + tS T * tW T := rfl
        by_cases h0 : 0 < tS T
        · have := hw.2.2.2.2.2.1 h0; omega
        · have e0 : tS T = 0 := by omega
          rw [this, e0, Nat.zero_mul] at hi; omega
  have w1 := E_S_writeNumber d a 0 1 (zn (tK T)) (z_wI A a 5 (zn (9 + tS T * tW T))) c hc3 (by omega) h1 h2 (by omega)
  have b1 := cT_setB (lo := 0) (n := 1) (g := fun i => ebF (zn (tK T)) (0 + 1 - 1 - i)) b0 (by omega)
  generalize hA1 : z_put (z_wI A a 5 (zn (9 + tS T * tW T))) (zP zQ (z_wI A a 5 (zn (9 + tS T * tW T))) a 4) 0 1 (fun i => ebF (zn (tK T)) (0 + 1 - 1 - i)) = A1 at w1 b1
  have p1 : zP zQ A1 a 4 = zP zQ A a 4 := by rw [← hA1, zP_put, zP_wI]
  obtain ⟨c1, -, -, -, -, -, -, ⟨n1, c2, -, m2, m3⟩, -⟩ := id b1
  have w2 := E_S_writeNumber d a 1 2 (zn (tN T)) A1 n1 m3 (by omega) c1 c2 (by omega)
  have b2 := cT_setB (lo := 1) (n := 2) (g := fun i => ebF (zn (tN T)) (1 + 2 - 1 - i)) b1 (by omega)
  generalize hA2 : z_put A1 (zP zQ A1 a 4) 1 2 (fun i => ebF (zn (tN T)) (1 + 2 - 1 - i)) = A2 at w2 b2
  have p2 : zP zQ A2 a 4 = zP zQ A a 4 := by rw [← hA2, zP_put, p1]
  obtain ⟨d1, -, -, -, -, -, -, ⟨n2, d2, -, m2', m3'⟩, -⟩ := id b2
  have ee := E_S_elements d a A2 _ b2 ⟨Nat.le_refl 9, hw.2.2.2.2.1, fun _ => rfl⟩
  have w3 := E_S_writeNumber d a 3 2 (zn (tS T)) A2 n2 m3' (by omega) d1 d2 (by omega)
  have b3 := cT_setB (lo := 3) (n := 2) (g := fun i => ebF (zn (tS T)) (3 + 2 - 1 - i)) b2 (by omega)
  generalize hA3 : z_put A2 (zP zQ A2 a 4) 3 2 (fun i => ebF (zn (tS T)) (3 + 2 - 1 - i)) = A3 at w3 b3
  have p3 : zP zQ A3 a 4 = zP zQ A a 4 := by rw [← hA3, zP_put, p2]
  have es := E_S_sumNow d a A3 _ b3 ⟨Nat.le_refl 9, hw.2.2.2.2.1, fun _ => rfl⟩ (by show 5 ≤ 9; omega)
  have em : tM (setB T (fun i => if 3 ≤ i ∧ i < 3 + 2 then ebF (zn (tS T)) (3 + 2 - 1 - i) else if 1 ≤ i ∧ i < 1 + 2 then ebF (zn (tN T)) (1 + 2 - 1 - i) else if 0 ≤ i ∧ i < 0 + 1 then ebF (zn (tK T)) (0 + 1 - 1 - i) else zI A (zP zQ A a 4) i)) = tM (h9F T) := by
    refine tM_congr ((tK_setB _ _).trans (tK_h9 T).symm) ((tS_setB _ _).trans (tS_h9 T).symm) (fun i hi => ?_) ((tE_setB _ _).trans (tE_h9 T).symm)
    rw [tB_setB, tB_h9]
    unfold h5F
    by_cases g2 : i = 0
    · rw [if_pos g2, if_neg (by omega), if_neg (by omega), if_pos (by omega), g2]
    · rw [if_neg g2]
      by_cases g3 : i = 1
      · rw [if_pos g3, if_neg (by omega), if_pos (by omega), g3]
      · rw [if_neg g3]
        by_cases g4 : i = 2
        · rw [if_pos g4, if_neg (by omega), if_pos (by omega), g4]
        · rw [if_neg g4]
          by_cases g5 : i = 3
          · rw [if_pos g5, if_pos (by omega), g5]
          · rw [if_neg g5, if_pos (by omega), show i = 4 by omega]
  rw [em] at es
  obtain ⟨f1, -, -, -, -, -, -, ⟨n3, f2, -, m2'', m3''⟩, -⟩ := id b3
  have w4 := E_S_writeNumber d a 5 4 (tM (h9F T)) A3 n3 m3'' (by omega) f1 f2 (by omega)
  have b4 := cT_setB (lo := 5) (n := 4) (g := fun i => ebF (tM (h9F T)) (5 + 4 - 1 - i)) b3 (by omega)
  generalize hA4 : z_put A3 (zP zQ A3 a 4) 5 4 (fun i => ebF (tM (h9F T)) (5 + 4 - 1 - i)) = A4 at w4 b4
  have p4 : zP zQ A4 a 4 = zP zQ A a 4 := by rw [← hA4, zP_put, p3]
  have q1 : zI A1 a 1 = zn (tN T) := b1.2.2.1
  refine ⟨A4, ?_, ?_, ?_, p4⟩
  · rw [B_S_writeHead]
    rw [tS_setB] at ee
    simp (disch := omega) only [z_bV_some, z_bI_some, z_bJ_some, z_bD_some, z_bR_some, cond_true, cond_false, Bool.and_true, Bool.true_and, Bool.not_false, Bool.not_true, Bool.and_self, Bool.or_true, Bool.false_or, Bool.true_or, zI_put_a, zP_put, zD_put, z_hd_put, z_cls_put, z_ia_put, z_ln_put, z_new_put, zI_wI_s, zI_wP, zI_wD, zD_wI, zD_wP, zD_wD_s, zP_wI, zP_wD, z_hd_wI, z_hd_wP, z_hd_wD, z_hd_cpy, z_cls_wI, z_cls_wP, z_cls_wD, z_cls_cpy, z_ia_wI, z_ia_wP, z_ia_wD, z_ia_cpy, z_ln_wI, z_ln_wP, z_ln_wD, z_ln_cpy, z_new_wI, z_new_wP, z_new_wD, z_new_cpy, z_new_nw, zP_cpy, zI_uI_s, zP_uI, zD_uI, z_hd_uI, z_cls_uI, z_ia_uI, z_ln_uI, z_new_uI, zI_wI_a, zI_wI_k, zI_uI_a, zI_cpy_a, zP_wP_s, zP_wP_a, zP_wP_k, nL_9, nL_0, nL_1, nL_2, nL_3, nL_5, nL_4, c9 h1, k5, E_max, hZ, k0, w1, c9 c1, q1, w2, c9 d1, ee, w3, c9 f1, es, w4]
  · refine cT_congr b4 ?_ ?_ ?_ ?_ ?_ (fun i hi => ?_)
    · rw [tK_setB, tK_seal]
    · rw [tN_setB, tN_seal]
    · rw [tU_setB, tU_seal]
    · rw [tL_setB, tL_seal]
    · rw [tZ_setB, tZ_seal]
    · rw [tY_setB, tY_seal]
      by_cases h9 : i < 9
      · rw [if_pos h9, if_pos h9, tB_seal]
        by_cases g1 : i < 5
        · rw [if_pos g1, if_neg (by omega)]
          unfold h5F
          by_cases g2 : i = 0
          · rw [if_pos g2, if_neg (by omega), if_neg (by omega), if_pos (by omega), g2]
          · rw [if_neg g2]
            by_cases g3 : i = 1
            · rw [if_pos g3, if_neg (by omega), if_pos (by omega), g3]
            · rw [if_neg g3]
              by_cases g4 : i = 2
              · rw [if_pos g4, if_neg (by omega), if_pos (by omega), g4]
              · rw [if_neg g4]
                by_cases g5 : i = 3
                · rw [if_pos g5, if_pos (by omega), g5]
                · rw [if_neg g5, if_pos (by omega), show i = 4 by omega]
        · rw [if_neg g1, if_pos (by omega)]
      · rw [if_neg h9, if_neg h9]
  · have hx : ∀ (B : zM) (lo n : Nat) (g : Nat → Int32), zFr 0 0 (xS a (zP zQ A a 4)) B (z_put B (zP zQ A a 4) lo n g) := fun B lo n g => zFr_put (fun _ _ _ => Or.inl rfl)
    have t0 : zFr 0 0 (xS a (zP zQ A a 4)) A (z_wI A a 5 (zn (9 + tS T * tW T))) := zFr_wI (Or.inr ⟨rfl, Or.inr (Or.inl rfl)⟩)
    have hh : ∀ x y : Nat, x < z_new zQ A → xS a (zP zQ A a 4) x y → xS a (zP zQ A a 4) x y := fun _ _ _ h => h
    have t1 := zFr_trans t0 (hx _ 0 1 (fun i => ebF (zn (tK T)) (0 + 1 - 1 - i))) hh
    have hA1' : z_put (z_wI A a 5 (zn (9 + tS T * tW T))) (zP zQ A a 4) 0 1 (fun i => ebF (zn (tK T)) (0 + 1 - 1 - i)) = A1 := hA1
    rw [hA1'] at t1
    have t2 := zFr_trans t1 (hx _ 1 2 (fun i => ebF (zn (tN T)) (1 + 2 - 1 - i))) hh
    rw [← p1, hA2] at t2
    rw [p1] at t2
    have t3 := zFr_trans t2 (hx _ 3 2 (fun i => ebF (zn (tS T)) (3 + 2 - 1 - i))) hh
    rw [← p2, hA3] at t3
    rw [p2] at t3
    have t4 := zFr_trans t3 (hx _ 5 4 (fun i => ebF (tM (h9F T)) (5 + 4 - 1 - i))) hh
    rw [← p3, hA4] at t4
    rw [p3] at t4
    exact t4
