/-! S LEVEL: rolls and strips, as class and reference hold them. -/
abbrev zG : Type := Nat × (Nat → Nat) × (Nat → Nat → Nat) × Nat × (Nat → zT) × Nat
def gR (G : zG) : Nat := G.1
def gZ (G : zG) : Nat → Nat := G.2.1
def gO (G : zG) : Nat → Nat → Nat := G.2.2.1
def gN (G : zG) : Nat := G.2.2.2.1
def gT (G : zG) : Nat → zT := G.2.2.2.2.1
def gE (G : zG) : Nat := G.2.2.2.2.2
def sumN (f : Nat → Nat) : Nat → Nat
  | 0 => 0
  | n + 1 => sumN f n + f n
theorem sumN_congr {f g : Nat → Nat} : ∀ n, (∀ i, i < n → f i = g i) → sumN f n = sumN g n
  | 0, _ => rfl
  | n + 1, h => by unfold sumN; rw [sumN_congr n (fun i hi => h i (by omega)), h n (by omega)]
theorem sumN_le {f : Nat → Nat} : ∀ n i, i < n → f i ≤ sumN f n
  | 0, i, h => absurd h (by omega)
  | n + 1, i, h => by
    unfold sumN
    by_cases e : i = n
    · rw [e]; omega
    · have := sumN_le (f := f) n i (by omega); omega
theorem sumN_upd {f : Nat → Nat} {p v : Nat} : ∀ n, p < n → sumN (fun i => if i = p then v else f i) n + f p = sumN f n + v
  | 0, h => absurd h (by omega)
  | n + 1, h => by
    unfold sumN
    by_cases e : n = p
    · subst e
      have : sumN (fun i => if i = n then v else f i) n = sumN f n := sumN_congr n (fun i hi => if_neg (by omega))
      rw [this]
      simp
      omega
    · have := sumN_upd (f := f) (p := p) (v := v) n (by omega)
      simp [e]
      omega
theorem sumN_two {f : Nat → Nat} {i j : Nat} : ∀ n, i < n → j < n → i ≠ j → f i + f j ≤ sumN f n
  | 0, h, _, _ => absurd h (by omega)
  | n + 1, h1, h2, h3 => by
    unfold sumN
    by_cases e : i = n
    · have := sumN_le (f := f) n j (by omega); subst e; omega
    · by_cases e2 : j = n
      · have := sumN_le (f := f) n i (by omega); subst e2; omega
      · have := sumN_two (f := f) n (by omega : i < n) (by omega : j < n) h3; omega
def wG (G : zG) : Prop := gR G ≤ 20 ∧ gN G ≤ 400 ∧ sumN (gZ G) (gR G) = gN G ∧ (∀ r s, r < gR G → s < gZ G r → gO G r s < gN G) ∧ (∀ p, p < gN G → wT (gT G p)) ∧ gE G = sumN (fun p => tS (gT G p)) (gN G) ∧ gE G ≤ 8000
def cRo (A : zM) (ρ n : Nat) : Prop := z_hd zQ A ρ = some (8, 2) ∧ z_hd zQ A (zP zQ A ρ 0) = some (18, 400) ∧ zI A ρ 1 = zn n
def cG (G : zG) (al : Nat → Nat) (A : zM) : Prop := zI A 1 3 = zn (gR G) ∧ zI A 1 4 = zn (gN G) ∧ zI A 1 5 = zn (gE G) ∧ (∀ r, r < gR G → cRo A (zP zQ A 2 r) (gZ G r)) ∧ (∀ r s, r < gR G → s < gZ G r → zP zQ A (zP zQ A (zP zQ A 2 r) 0) s = al (gO G r s)) ∧ (∀ r r', r < gR G → r' < gR G → r ≠ r' → zP zQ A 2 r ≠ zP zQ A 2 r' ∧ zP zQ A (zP zQ A 2 r) 0 ≠ zP zQ A (zP zQ A 2 r') 0) ∧ (∀ p, p < gN G → cT A (al p) (gT G p)) ∧ (∀ p q, p < gN G → q < gN G → p ≠ q → al p ≠ al q ∧ zP zQ A (al p) 4 ≠ zP zQ A (al q) 4) ∧ sc56 A
def rG (G : zG) (B : zM) : Prop := zI B 15 1 = zn (gR G) ∧ zI B 15 4 = zn (gN G) ∧ zI B 15 13 = zn (gE G) ∧ (∀ r, r < gR G → zI B 16 r = zn (gZ G r)) ∧ (∀ r, gR G ≤ r → r < 20 → zI B 16 r = zn 0) ∧ (∀ r s, r < gR G → s < gZ G r → zI B 17 (400 * r + s) = zn (gO G r s)) ∧ (∀ p, p < gN G → rT B p (gT G p)) ∧ (∀ p, gN G ≤ p → p < 400 → rT B p zeroT)
theorem wG_z {G : zG} (h : wG G) {r : Nat} (hr : r < gR G) : gZ G r ≤ gN G := by
  have := sumN_le (f := gZ G) (gR G) r hr
  rw [h.2.2.1] at this; exact this
def rOk (G : zG) (x : Int32) : Prop := 0 ≤ x.toInt ∧ x.toInt < gR G
def sOk (G : zG) (x y : Int32) : Prop := rOk G x ∧ 0 ≤ y.toInt ∧ y.toInt < gZ G x.toNatClampNeg
def pO (G : zG) (x y : Int32) : Nat := gO G x.toNatClampNeg y.toNatClampNeg
theorem cl_N {x : Int32} (h : 0 ≤ x.toInt) : (x.toNatClampNeg : Int) = x.toInt := by
  have := Int32.toNat_toInt x
  omega
theorem rOk_ex {G : zG} {x : Int32} (h : rOk G x) : ∃ r, r < gR G ∧ x = zn r ∧ x.toNatClampNeg = r := ⟨x.toNatClampNeg, by have := cl_N h.1; have := h.2; omega, (zn_of h.1).symm, rfl⟩
theorem sOk_ex {G : zG} {x y : Int32} (h : sOk G x y) : ∃ r s, r < gR G ∧ s < gZ G r ∧ x = zn r ∧ y = zn s ∧ x.toNatClampNeg = r ∧ y.toNatClampNeg = s := ⟨x.toNatClampNeg, y.toNatClampNeg, by have := cl_N h.1.1; have := h.1.2; omega, by have := cl_N h.2.1; have := h.2.2; omega, (zn_of h.1.1).symm, (zn_of h.2.1).symm, rfl, rfl⟩
theorem sOk_p {G : zG} (w : wG G) {x y : Int32} (h : sOk G x y) : pO G x y < gN G := by
  obtain ⟨r, s, hr, hs, -, -, e1, e2⟩ := sOk_ex h
  unfold pO
  rw [e1, e2]
  exact w.2.2.2.1 r s hr hs
/-- which roll, which strip: the class -/
theorem c8 {A : zM} {a : Nat} (h : z_hd zQ A a = some (8, 2)) : z_cls zQ A a [8] = true := by rw [z_cls_of h]; rfl
theorem hd_n0 {A : zM} {a t n : Nat} (h : z_hd zQ A a = some (t, n)) (ht : t ≠ 99) : a ≠ 0 := by
  rintro rfl
  cases h
  exact ht rfl
theorem E_P_rollAt_ok (d : Nat) {G : zG} {al : Nat → Nat} {A : zM} {x : Int32} (h : cG G al A) (w : wG G) (hx : rOk G x) : z_den zQ (d + 1) mP_rollAt [.ref 1, .int x] A = some (some (.ref (zP zQ A 2 x.toNatClampNeg)), A) := by
  obtain ⟨r, hr, rfl, er⟩ := rOk_ex hx
  have := w.1
  rw [B_P_rollAt, h.1]
  simp (disch := omega) only [z_bV_some, z_bI_some, z_bJ_some, z_bD_some, z_bR_some, cond_true, cond_false, Bool.and_true, Bool.true_and, Bool.not_false, Bool.not_true, Bool.and_self, Bool.or_true, Bool.false_or, Bool.true_or, zn_ok, zn_ok0, zn_N, zn_add, zn_mul, zn_sub, z_lt_T, z_lt_F, z_le_T, z_le_F, z_eq_T, z_ne_F, z_eq_F, z_ne_T, z_ix_T, z_lt_m, z_le_m, z_lt_m2, z_le_m2, z_eq_m, z_ne_m, zn_div, z_a31, zn_shl, zn_shr, z_bq_T, z_bq_F, z_bl_T, nL_0, nL_20]
theorem E_P_rollAt_no (d : Nat) {G : zG} {al : Nat → Nat} {A : zM} {x : Int32} (h : cG G al A) (w : wG G) (hx : ¬ rOk G x) : z_den zQ (d + 1) mP_rollAt [.ref 1, .int x] A = some (some (.ref 0), A) := by
  have := w.1
  have t0 : (zn 0).toInt = 0 := zn_toInt (by omega)
  have tr : (zn (gR G)).toInt = gR G := zn_toInt (by omega)
  rw [B_P_rollAt, h.1, nL_0]
  unfold rOk at hx
  by_cases g : x.toInt < 0
  · rw [z_lt_tt (by omega)]; rfl
  · rw [z_lt_ff (by omega), z_le_tt (by omega)]; rfl
theorem E_P_stripAt_ok (d : Nat) {G : zG} {al : Nat → Nat} {A : zM} {x y : Int32} (h : cG G al A) (w : wG G) (hx : sOk G x y) : z_den zQ (d + 2) mP_stripAt [.ref 1, .int x, .int y] A = some (some (.ref (al (pO G x y))), A) := by
  have e1 := E_P_rollAt_ok d h w hx.1
  obtain ⟨r, s, hr, hs, rfl, rfl, er, es⟩ := sOk_ex hx
  have hz := wG_z w hr
  have hn := w.2.1
  rw [er] at e1
  obtain ⟨-, -, -, h4, h5, -⟩ := h
  obtain ⟨q1, q2, q3⟩ := h4 r hr
  have h5 := h5 r s hr hs
  have n0 := hd_n0 q1 (by decide)
  unfold pO
  rw [er, es, B_P_stripAt, e1]
  simp (disch := omega) only [z_bV_some, z_bI_some, z_bJ_some, z_bD_some, z_bR_some, cond_true, cond_false, Bool.and_true, Bool.true_and, Bool.not_false, Bool.not_true, Bool.and_self, Bool.or_true, Bool.false_or, Bool.true_or, zn_ok, zn_ok0, zn_N, zn_add, zn_mul, zn_sub, z_lt_T, z_lt_F, z_le_T, z_le_F, z_eq_T, z_ne_F, z_eq_F, z_ne_T, z_ix_T, z_lt_m, z_le_m, z_lt_m2, z_le_m2, z_eq_m, z_ne_m, zn_div, z_a31, zn_shl, zn_shr, z_bq_T, z_bq_F, z_bl_T, c8 q1]
  rw [B_L_stripAt, q3]
  simp (disch := omega) only [z_bV_some, z_bI_some, z_bJ_some, z_bD_some, z_bR_some, cond_true, cond_false, Bool.and_true, Bool.true_and, Bool.not_false, Bool.not_true, Bool.and_self, Bool.or_true, Bool.false_or, Bool.true_or, zn_ok, zn_ok0, zn_N, zn_add, zn_mul, zn_sub, z_lt_T, z_lt_F, z_le_T, z_le_F, z_eq_T, z_ne_F, z_eq_F, z_ne_T, z_ix_T, z_lt_m, z_le_m, z_lt_m2, z_le_m2, z_eq_m, z_ne_m, zn_div, z_a31, zn_shl, zn_shr, z_bq_T, z_bq_F, z_bl_T, nL_0, nL_400, c8 q1, z_ia_of q2, h5]
theorem E_L_stripAt_no (d : Nat) {A : zM} {ρ n : Nat} {y : Int32} (h : cRo A ρ n) (hn : n < 2147483648) (hy : y.toInt < 0 ∨ n ≤ y.toInt) : z_den zQ (d + 1) mL_stripAt [.ref ρ, .int y] A = some (some (.ref 0), A) := by
  have t0 : (zn 0).toInt = 0 := zn_toInt (by omega)
  have tn : (zn n).toInt = n := zn_toInt hn
  rw [B_L_stripAt, h.2.2, nL_0]
  by_cases g : y.toInt < 0
  · rw [z_lt_tt (by omega)]; rfl
  · rw [z_lt_ff (by omega), z_le_tt (by omega), c8 h.1]; rfl
theorem E_L_stripAt_ok (d : Nat) {A : zM} {ρ n s : Nat} (h : cRo A ρ n) (hn : n ≤ 400) (hs : s < n) : z_den zQ (d + 1) mL_stripAt [.ref ρ, .int (zn s)] A = some (some (.ref (zP zQ A (zP zQ A ρ 0) s)), A) := by
  rw [B_L_stripAt, h.2.2]
  simp (disch := omega) only [z_bV_some, z_bI_some, z_bJ_some, z_bD_some, z_bR_some, cond_true, cond_false, Bool.and_true, Bool.true_and, Bool.not_false, Bool.not_true, Bool.and_self, Bool.or_true, Bool.false_or, Bool.true_or, zn_ok, zn_ok0, zn_N, zn_add, zn_mul, zn_sub, z_lt_T, z_lt_F, z_le_T, z_le_F, z_eq_T, z_ne_F, z_eq_F, z_ne_T, z_ix_T, z_lt_m, z_le_m, z_lt_m2, z_le_m2, z_eq_m, z_ne_m, zn_div, z_a31, zn_shl, zn_shr, z_bq_T, z_bq_F, z_bl_T, nL_0, nL_400, c8 h.1, z_ia_of h.2.1]
theorem E_P_stripAt_no (d : Nat) {G : zG} {al : Nat → Nat} {A : zM} {x y : Int32} (h : cG G al A) (w : wG G) (hx : ¬ sOk G x y) : z_den zQ (d + 2) mP_stripAt [.ref 1, .int x, .int y] A = some (some (.ref 0), A) := by
  by_cases g : rOk G x
  · have e1 := E_P_rollAt_ok d h w g
    have hx2 : y.toInt < 0 ∨ gZ G x.toNatClampNeg ≤ y.toInt := by
      by_cases q : y.toInt < 0
      · exact Or.inl q
      · exact Or.inr (by
          by_cases q2 : y.toInt < gZ G x.toNatClampNeg
          · exact absurd ⟨g, by omega, q2⟩ hx
          · omega)
    obtain ⟨r, hr, rfl, er⟩ := rOk_ex g
    have hz := wG_z w hr
    have hn := w.2.1
    rw [er] at e1 hx2
    have q := h.2.2.2.1 r hr
    have e2 := E_L_stripAt_no d q (by omega) hx2
    have n0 := hd_n0 q.1 (by decide)
    rw [B_P_stripAt, e1]
    simp (disch := omega) only [z_bV_some, z_bI_some, z_bJ_some, z_bD_some, z_bR_some, cond_true, cond_false, Bool.and_true, Bool.true_and, Bool.not_false, Bool.not_true, Bool.and_self, Bool.or_true, Bool.false_or, Bool.true_or, zn_ok, zn_ok0, zn_N, zn_add, zn_mul, zn_sub, z_lt_T, z_lt_F, z_le_T, z_le_F, z_eq_T, z_ne_F, z_eq_F, z_ne_T, z_ix_T, z_lt_m, z_le_m, z_lt_m2, z_le_m2, z_eq_m, z_ne_m, zn_div, z_a31, zn_shl, zn_shr, z_bq_T, z_bq_F, z_bl_T, c8 q.1, e2]
  · rw [B_P_stripAt, E_P_rollAt_no d h w g]
    rfl
/-- and the reference -/
theorem bI_okz (b : Bool) : decide (bI b &&& zn 1 = bI b) = true := by rw [← nL_1]; exact bI_ok b
theorem E_Q_isRoll_ok (d : Nat) {G : zG} {B : zM} {x : Int32} (h : rG G B) (w : wG G) (hx : rOk G x) : z_den zQ (d + 2) mQ_isRoll [.ref 15, .int x] B = some (some (.int (zn 1)), B) := by
  have := w.1
  have t0 : (zn 0).toInt = 0 := zn_toInt (by omega)
  have t1 := tI_pred (m := gR G) (by omega)
  unfold rOk at hx
  rw [B_Q_isRoll, h.1, nL_0, nL_1, E_Q_within, z_bI_some, bI_okz, cond_true, bI_1 (by rw [decide_eq_true_iff]; omega)]
theorem E_Q_isRoll_no (d : Nat) {G : zG} {B : zM} {x : Int32} (h : rG G B) (w : wG G) (hx : ¬ rOk G x) : z_den zQ (d + 2) mQ_isRoll [.ref 15, .int x] B = some (some (.int (zn 0)), B) := by
  have := w.1
  have t0 : (zn 0).toInt = 0 := zn_toInt (by omega)
  have t1 := tI_pred (m := gR G) (by omega)
  unfold rOk at hx
  rw [B_Q_isRoll, h.1, nL_0, nL_1, E_Q_within, z_bI_some, bI_okz, cond_true, bI_0 (by rw [decide_eq_true_iff]; omega)]
theorem E_Q_poolOf (d : Nat) {G : zG} {B : zM} {x y : Int32} (h : rG G B) (w : wG G) (hx : sOk G x y) : z_den zQ (d + 1) mQ_poolOf [.ref 15, .int x, .int y] B = some (some (.int (zn (pO G x y))), B) := by
  obtain ⟨r, s, hr, hs, rfl, rfl, er, es⟩ := sOk_ex hx
  have hz := wG_z w hr
  have hn := w.2.1
  have hr2 := w.1
  have e := h.2.2.2.2.2.1 r s hr hs
  unfold pO
  rw [er, es, B_Q_poolOf]
  simp (disch := omega) only [z_bV_some, z_bI_some, z_bJ_some, z_bD_some, z_bR_some, cond_true, cond_false, Bool.and_true, Bool.true_and, Bool.not_false, Bool.not_true, Bool.and_self, Bool.or_true, Bool.false_or, Bool.true_or, zn_ok, zn_ok0, zn_N, zn_add, zn_mul, zn_sub, z_lt_T, z_lt_F, z_le_T, z_le_F, z_eq_T, z_ne_F, z_eq_F, z_ne_T, z_ix_T, z_lt_m, z_le_m, z_lt_m2, z_le_m2, z_eq_m, z_ne_m, zn_div, z_a31, zn_shl, zn_shr, z_bq_T, z_bq_F, z_bl_T, nL_400, e]
theorem E_Q_isStrip_ok (d : Nat) {G : zG} {B : zM} {x y : Int32} (h : rG G B) (w : wG G) (hx : sOk G x y) : z_den zQ (d + 3) mQ_isStrip [.ref 15, .int x, .int y] B = some (some (.int (zn 1)), B) := by
  have e1 := E_Q_isRoll_ok d h w hx.1
  have hx2 := hx
  obtain ⟨r, s, hr, hs, rfl, rfl, er, es⟩ := sOk_ex hx
  have hz := wG_z w hr
  have hn := w.2.1
  have hr2 := w.1
  have t0 : (zn 0).toInt = 0 := zn_toInt (by omega)
  have t1 := tI_pred (m := gZ G r) (by omega)
  have ts : (zn s).toInt = s := zn_toInt (by omega)
  have e2 := E_Q_within (d + 1) (zn s) (zn 0) (zn (gZ G r) - zn 1) B
  rw [bI_1 (by rw [decide_eq_true_iff]; omega)] at e2
  rw [B_Q_isStrip, e1]
  simp (disch := omega) only [z_bV_some, z_bI_some, z_bJ_some, z_bD_some, z_bR_some, cond_true, cond_false, Bool.and_true, Bool.true_and, Bool.not_false, Bool.not_true, Bool.and_self, Bool.or_true, Bool.false_or, Bool.true_or, zn_ok, zn_ok0, zn_N, zn_add, zn_mul, zn_sub, z_lt_T, z_lt_F, z_le_T, z_le_F, z_eq_T, z_ne_F, z_eq_F, z_ne_T, z_ix_T, z_lt_m, z_le_m, z_lt_m2, z_le_m2, z_eq_m, z_ne_m, zn_div, z_a31, zn_shl, zn_shr, z_bq_T, z_bq_F, z_bl_T, nL_0, nL_1, h.2.2.2.1 r hr]
  simp (disch := omega) only [zn_sub] at e2
  simp (disch := omega) only [z_bV_some, z_bI_some, z_bJ_some, z_bD_some, z_bR_some, cond_true, cond_false, Bool.and_true, Bool.true_and, Bool.not_false, Bool.not_true, Bool.and_self, Bool.or_true, Bool.false_or, Bool.true_or, zn_ok, zn_ok0, zn_N, zn_add, zn_mul, zn_sub, z_lt_T, z_lt_F, z_le_T, z_le_F, z_eq_T, z_ne_F, z_eq_F, z_ne_T, z_ix_T, z_lt_m, z_le_m, z_lt_m2, z_le_m2, z_eq_m, z_ne_m, zn_div, z_a31, zn_shl, zn_shr, z_bq_T, z_bq_F, z_bl_T, nL_0, nL_1, e2]
theorem E_Q_isStrip_no (d : Nat) {G : zG} {B : zM} {x y : Int32} (h : rG G B) (w : wG G) (hx : ¬ sOk G x y) : z_den zQ (d + 3) mQ_isStrip [.ref 15, .int x, .int y] B = some (some (.int (zn 0)), B) := by
  by_cases g : rOk G x
  · have e1 := E_Q_isRoll_ok d h w g
    have hx2 : ¬ (0 ≤ y.toInt ∧ y.toInt < gZ G x.toNatClampNeg) := fun q => hx ⟨g, q⟩
    obtain ⟨r, hr, rfl, er⟩ := rOk_ex g
    have hz := wG_z w hr
    have hn := w.2.1
    have hr2 := w.1
    rw [er] at hx2
    have t0 : (zn 0).toInt = 0 := zn_toInt (by omega)
    have t1 := tI_pred (m := gZ G r) (by omega)
    have e2 := E_Q_within (d + 1) y (zn 0) (zn (gZ G r) - zn 1) B
    rw [bI_0 (by rw [decide_eq_true_iff]; omega)] at e2
    have hq := h.2.2.2.1 r hr
    rw [B_Q_isStrip, e1, z_bI_some, nL_0, nL_1, z_eq_F (by omega) (by omega) (by omega), cond_false, z_ix_T (by omega) (by omega), cond_true, er, hq, e2, z_bI_some, z_eq_T]
    rfl
  · rw [B_Q_isStrip, E_Q_isRoll_no d h w g, z_bI_some, nL_0, z_eq_T]
    rfl
