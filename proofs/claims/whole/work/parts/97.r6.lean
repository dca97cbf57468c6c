/-! S LEVEL, PLAYING: what is laid aside, the reference. -/
def rW (g : Nat → Int32) (l : yL) (a : Nat) (B : zM) : Prop := (∀ t, t < 8 → zI B 52 (a + t) = bI (btF (g 7) t) ∧ zI B 52 (a + 8 + t) = g (15 + t)) ∧ (∀ c, c < 16 → zI B 52 (a + 16 + c) = bI (btF (g 8) c)) ∧ (zI B 52 (a + 32) = g 0 ∧ ((g 12).toInt < (g 11).toInt → zI B 52 (a + 33) = g 9 ∧ zI B 52 (a + 34) = g 10) ∧ zI B 52 (a + 35) = g 11 ∧ zI B 52 (a + 36) = g 12 ∧ zI B 52 (a + 37) = g 1 ∧ zI B 52 (a + 38) = g 2 ∧ zI B 52 (a + 39) = g 3 ∧ zI B 52 (a + 40) = g 4 ∧ zI B 52 (a + 41) = g 5 ∧ zI B 52 (a + 42) = g 6 ∧ zI B 52 (a + 43) = zn l.length ∧ zI B 52 (a + 44) = g 13) ∧ (∀ i, i < 60 → zI B 52 (a + 50 + i) = g (23 + i) ∧ zI B 52 (a + 110 + i) = g (83 + i) ∧ zI B 52 (a + 170 + i) = g (143 + i)) ∧ ∀ k, k < l.length → zI B 52 (a + 240 + 3 * k) = zn (l.getD k s0).1 ∧ zI B 52 (a + 241 + 3 * k) = zn (l.getD k s0).2.1 ∧ zI B 52 (a + 242 + 3 * k) = zn (l.getD k s0).2.2
theorem rW_cg {g : Nat → Int32} {l : yL} {a : Nat} {B B' : zM} (h : rW g l a B) (hl : l.length ≤ 320) (e : ∀ m, a ≤ m → m < a + 1210 → zI B' 52 m = zI B 52 m) : rW g l a B' := by
  obtain ⟨h1, h2, ⟨a0, a1, a2, a3, a4, a5, a6, a7, a8, a9, a10, a11⟩, h4, h5⟩ := h
  refine ⟨fun t ht => ?_, fun c hc => ?_, ?_, fun i hi => ?_, fun k hk => ?_⟩
  · rw [e _ (by omega) (by omega), e _ (by omega) (by omega)]; exact h1 t ht
  · rw [e _ (by omega) (by omega)]; exact h2 c hc
  · rw [e _ (by omega) (by omega), e _ (by omega) (by omega), e _ (by omega) (by omega), e _ (by omega) (by omega), e _ (by omega) (by omega), e _ (by omega) (by omega), e _ (by omega) (by omega), e _ (by omega) (by omega), e _ (by omega) (by omega), e _ (by omega) (by omega), e _ (by omega) (by omega), e _ (by omega) (by omega), e _ (by omega) (by omega)]
    exact ⟨a0, a1, a2, a3, a4, a5, a6, a7, a8, a9, a10, a11⟩
  · rw [e _ (by omega) (by omega), e _ (by omega) (by omega), e _ (by omega) (by omega)]; exact h4 i hi
  · rw [e _ (by omega) (by omega), e _ (by omega) (by omega), e _ (by omega) (by omega)]; exact h5 k hk
def xl1 (a t : Nat) (a' k : Nat) : Prop := a' = 52 ∧ ((a + t ≤ k ∧ k < a + 8) ∨ (a + 8 + t ≤ k ∧ k < a + 16))
def xl2 (a t : Nat) (a' k : Nat) : Prop := a' = 52 ∧ a + 16 + t ≤ k ∧ k < a + 45
def xl3 (a t : Nat) (a' k : Nat) : Prop := a' = 52 ∧ ((a + 50 + t ≤ k ∧ k < a + 110) ∨ (a + 110 + t ≤ k ∧ k < a + 170) ∨ (a + 170 + t ≤ k ∧ k < a + 230))
def xl4 (a t : Nat) (a' k : Nat) : Prop := a' = 52 ∧ a + 240 + 3 * t ≤ k ∧ k < a + 1210
theorem L_la1 (d : Nat) {a : Nat} (ha : a + 1210 ≤ 606210) {b7 : Nat → Bool} {lv : Nat → Int32} : ∀ (n t : Nat) (B : zM), t + n = 8 → (∀ u, u < 8 → zI B 43 u = bI (b7 u)) → (∀ u, u < 8 → zI B 44 u = lv u) → ∃ B', z_denF zQ (d + 1) mQ_layAside (51, [some (.ref 15), some (.int (zn a)), some (.int (zn t))], [], B) = z_denF zQ (d + 1) mQ_layAside (104, [some (.ref 15), some (.int (zn a)), some (.int 0)], [], B') ∧ (∀ u, t ≤ u → u < 8 → zI B' 52 (a + u) = bI (b7 u) ∧ zI B' 52 (a + 8 + u) = lv u) ∧ zFr 0 0 (xl1 a t) B B'
  | 0, t, B, ht, h1, h2 => by
    refine ⟨B, ?_, fun u a b => by omega, zFr_refl _ _⟩
    rw [L_Q_layAside_51, nL_8, z_le_T (by omega) (by omega), cond_true]
  | n + 1, t, B, ht, h1, h2 => by
    have hn := z_new_ge B
    obtain ⟨B', q1, q2, q3⟩ := L_la1 d ha (b7 := b7) (lv := lv) n (t + 1) (z_wI (z_wI B 52 (a + t) (bI (b7 t))) 52 (a + 8 + t) (lv t)) (by omega) (fun u hu => by rw [zI_wI_a (by omega), zI_wI_a (by omega)]; exact h1 u hu) (fun u hu => by rw [zI_wI_a (by omega), zI_wI_a (by omega)]; exact h2 u hu)
    have hn1 := z_new_ge (z_wI (z_wI B 52 (a + t) (bI (b7 t))) 52 (a + 8 + t) (lv t))
    refine ⟨B', ?_, fun u u1 u2 => ?_, ?_⟩
    · rw [← q1, L_Q_layAside_51, nL_8, z_le_F (by omega) (by omega), cond_false, z_ix_T (by omega) (by omega), cond_true, zn_N (by omega), h1 t (by omega), bI_eq0, zn_add, z_ix_T (by omega) (by omega), zn_add, zn_add, z_ix_T (by omega) (by omega), zn_N (by omega), zn_N (by omega), h2 t (by omega), zn_1]
      simp only [cond_true]
      cases b7 t
      · rw [show (!false) = true from rfl, cond_true, bI_F, nL_0]
      · rw [show (!true) = false from rfl, cond_false, bI_T, nL_1]
    · by_cases e : u = t
      · subst e
        rw [zFr_I q3 _ (by omega) (fun q => by unfold xl1 at q; omega), zFr_I q3 _ (by omega) (fun q => by unfold xl1 at q; omega), zI_wI_k (by omega), zI_wI_s, zI_wI_s]
        exact ⟨rfl, rfl⟩
      · exact q2 u (by omega) u2
    · refine zFr_trans (x_tr (zFr_wI (X := xl1 a t) ⟨rfl, by omega⟩) (zFr_wI (X := xl1 a t) ⟨rfl, by omega⟩)) q3 (fun a' k _ e => ?_)
      unfold xl1 at e ⊢; omega
/-- the thirteen single ones -/
noncomputable def la13 (B : zM) (a : Nat) (w : Int32) : zM := z_wI (z_wI (z_wI (z_wI (z_wI (z_wI (z_wI (z_wI (z_wI (z_wI (z_wI (z_wI (z_wI B 52 (a + 32) (zI B 15 41)) 52 (a + 33) (zI B 15 42)) 52 (a + 34) (zI B 15 43)) 52 (a + 35) (zI B 15 44)) 52 (a + 36) (zI B 15 45)) 52 (a + 37) (zI B 15 46)) 52 (a + 38) (zI B 15 47)) 52 (a + 39) (zI B 15 48)) 52 (a + 40) (zI B 15 49)) 52 (a + 41) (zI B 15 50)) 52 (a + 42) w) 52 (a + 43) (zI B 15 52)) 52 (a + 44) (zI B 15 58)
theorem la13_fr (B : zM) (a : Nat) (w : Int32) {t : Nat} (ht : t ≤ 16) : zFr 0 0 (xl2 a t) B (la13 B a w) := by
  have x : ∀ (M : zM) k v, a + 32 ≤ k → k < a + 45 → zFr 0 0 (xl2 a t) M (z_wI M 52 k v) := fun M k v h1 h2 => zFr_wI (X := xl2 a t) ⟨rfl, by omega, h2⟩
  unfold la13
  exact x_tr (x_tr (x_tr (x_tr (x_tr (x_tr (x_tr (x_tr (x_tr (x_tr (x_tr (x_tr (x _ _ _ (by omega) (by omega)) (x _ _ _ (by omega) (by omega))) (x _ _ _ (by omega) (by omega))) (x _ _ _ (by omega) (by omega))) (x _ _ _ (by omega) (by omega))) (x _ _ _ (by omega) (by omega))) (x _ _ _ (by omega) (by omega))) (x _ _ _ (by omega) (by omega))) (x _ _ _ (by omega) (by omega))) (x _ _ _ (by omega) (by omega))) (x _ _ _ (by omega) (by omega))) (x _ _ _ (by omega) (by omega))) (x _ _ _ (by omega) (by omega))
theorem L_la2 (d : Nat) {a : Nat} (ha : a + 1210 ≤ 606210) {b8 : Nat → Bool} {w : Bool} : ∀ (n t : Nat) (B : zM), t + n = 16 → (∀ u, u < 16 → zI B 45 u = bI (b8 u)) → zI B 15 51 = bI w → ∃ B1 B', z_denF zQ (d + 1) mQ_layAside (104, [some (.ref 15), some (.int (zn a)), some (.int (zn t))], [], B) = z_denF zQ (d + 1) mQ_layAside (320, [some (.ref 15), some (.int (zn a)), some (.int 0)], [], B') ∧ B' = la13 B1 a (bI w) ∧ (∀ u, t ≤ u → u < 16 → zI B1 52 (a + 16 + u) = bI (b8 u)) ∧ zFr 0 0 (fun a' k => a' = 52 ∧ a + 16 + t ≤ k ∧ k < a + 32) B B1
  | 0, t, B, ht, h1, h2 => by
    refine ⟨B, la13 B a (bI w), ?_, rfl, fun u a b => by omega, zFr_refl _ _⟩
    have c : ∀ j, j < 45 → ∀ x : Int32, x = zn j → z_ix (zn a + x) 606210 = true ∧ Int32.toNatClampNeg (zn a + x) = a + j := fun j hj x hx => by
      rw [hx, zn_add]; exact ⟨z_ix_T (by omega) (by omega), zn_N (by omega)⟩
    have c32 := c 32 (by omega) 32 nL_32
    have c33 := c 33 (by omega) 33 (zn_eq 33).symm
    have c34 := c 34 (by omega) 34 (zn_eq 34).symm
    have c35 := c 35 (by omega) 35 (zn_eq 35).symm
    have c36 := c 36 (by omega) 36 (zn_eq 36).symm
    have c37 := c 37 (by omega) 37 (zn_eq 37).symm
    have c38 := c 38 (by omega) 38 (zn_eq 38).symm
    have c39 := c 39 (by omega) 39 (zn_eq 39).symm
    have c40 := c 40 (by omega) 40 (zn_eq 40).symm
    have c41 := c 41 (by omega) 41 (zn_eq 41).symm
    have c42 := c 42 (by omega) 42 (zn_eq 42).symm
    have c43 := c 43 (by omega) 43 (zn_eq 43).symm
    have c44 := c 44 (by omega) 44 (zn_eq 44).symm
    rw [L_Q_layAside_104, show z_le (16 : Int32) (zn t) = true by rw [nL_16]; exact z_le_T (by omega) (by omega), cond_true, h2, bI_eq0]
    simp only [c32.1, c33.1, c34.1, c35.1, c36.1, c37.1, c38.1, c39.1, c40.1, c41.1, c42.1, c43.1, c44.1, c32.2, c33.2, c34.2, c35.2, c36.2, c37.2, c38.2, c39.2, c40.2, c41.2, c42.2, c43.2, c44.2, cond_true]
    unfold la13
    cases w
    · rw [show (!false) = true from rfl, cond_true, bI_F, nL_0]
    · rw [show (!true) = false from rfl, cond_false, bI_T, nL_1]
  | n + 1, t, B, ht, h1, h2 => by
    have hn := z_new_ge B
    obtain ⟨B1, B', q1, q2, q3, q4⟩ := L_la2 d ha (b8 := b8) (w := w) n (t + 1) (z_wI B 52 (a + 16 + t) (bI (b8 t))) (by omega) (fun u hu => by rw [zI_wI_a (by omega)]; exact h1 u hu) (by rw [zI_wI_a (by omega)]; exact h2)
    have hn1 := z_new_ge (z_wI B 52 (a + 16 + t) (bI (b8 t)))
    refine ⟨B1, B', ?_, q2, fun u u1 u2 => ?_, ?_⟩
    · have e16 : zn a + (16 : Int32) + zn t = zn (a + 16 + t) := by rw [nL_16, zn_add, zn_add]
      rw [← q1, L_Q_layAside_104, show z_le (16 : Int32) (zn t) = false by rw [nL_16]; exact z_le_F (by omega) (by omega), cond_false, z_ix_T (by omega) (by omega), cond_true, e16, z_ix_T (by omega) (by omega), cond_true, cond_true, zn_N (by omega), zn_N (by omega), h1 t (by omega), bI_eq0, zn_1]
      cases b8 t
      · rw [show (!false) = true from rfl, cond_true, bI_F, nL_0]
      · rw [show (!true) = false from rfl, cond_false, bI_T, nL_1]
    · by_cases e : u = t
      · subst e
        rw [zFr_I q4 _ (by omega) (fun q => by omega), zI_wI_s]
      · exact q3 u (by omega) u2
    · refine zFr_trans (zFr_wI (X := fun a' k => a' = 52 ∧ a + 16 + t ≤ k ∧ k < a + 32) ⟨rfl, by omega, by omega⟩) q4 (fun a' k _ e => ?_)
      omega
theorem L_la3 (d : Nat) {a : Nat} (ha : a + 1210 ≤ 606210) {x1 x2 x3 : Nat → Int32} : ∀ (n t : Nat) (B : zM), t + n = 60 → (∀ u, u < 60 → zI B 30 u = x1 u ∧ zI B 49 u = x2 u ∧ zI B 50 u = x3 u) → ∃ B', z_denF zQ (d + 1) mQ_layAside (320, [some (.ref 15), some (.int (zn a)), some (.int (zn t))], [], B) = z_denF zQ (d + 1) mQ_layAside (386, [some (.ref 15), some (.int (zn a)), some (.int 0)], [], B') ∧ (∀ u, t ≤ u → u < 60 → zI B' 52 (a + 50 + u) = x1 u ∧ zI B' 52 (a + 110 + u) = x2 u ∧ zI B' 52 (a + 170 + u) = x3 u) ∧ zFr 0 0 (xl3 a t) B B'
  | 0, t, B, ht, h1 => by
    refine ⟨B, ?_, fun u a b => by omega, zFr_refl _ _⟩
    rw [L_Q_layAside_320, nL_60, z_le_T (by omega) (by omega), cond_true]
  | n + 1, t, B, ht, h1 => by
    have hn := z_new_ge B
    obtain ⟨y1, y2, y3⟩ := h1 t (by omega)
    obtain ⟨B', q1, q2, q3⟩ := L_la3 d ha (x1 := x1) (x2 := x2) (x3 := x3) n (t + 1) (z_wI (z_wI (z_wI B 52 (a + 50 + t) (x1 t)) 52 (a + 110 + t) (x2 t)) 52 (a + 170 + t) (x3 t)) (by omega) (fun u hu => by simp (disch := omega) only [zI_wI_a]; exact h1 u hu)
    have hn1 := z_new_ge (z_wI (z_wI (z_wI B 52 (a + 50 + t) (x1 t)) 52 (a + 110 + t) (x2 t)) 52 (a + 170 + t) (x3 t))
    refine ⟨B', ?_, fun u u1 u2 => ?_, ?_⟩
    · have e1 : zn a + (50 : Int32) + zn t = zn (a + 50 + t) := by rw [nL_50, zn_add, zn_add]
      have e2 : zn a + (110 : Int32) + zn t = zn (a + 110 + t) := by rw [nL_110, zn_add, zn_add]
      have e3 : zn a + (170 : Int32) + zn t = zn (a + 170 + t) := by rw [nL_170, zn_add, zn_add]
      rw [← q1, L_Q_layAside_320, nL_60, z_le_F (by omega) (by omega), cond_false, e1, e2, e3, z_ix_T (by omega) (by omega), z_ix_T (by omega) (by omega), z_ix_T (by omega) (by omega), z_ix_T (by omega) (by omega), zn_N (by omega), zn_N (by omega), zn_N (by omega), zn_N (by omega), y1, y2, y3, zn_1]
      simp only [cond_true]
    · by_cases e : u = t
      · subst e
        rw [zFr_I q3 _ (by omega) (fun q => by unfold xl3 at q; omega), zFr_I q3 _ (by omega) (fun q => by unfold xl3 at q; omega), zFr_I q3 _ (by omega) (fun q => by unfold xl3 at q; omega), zI_wI_k (by omega), zI_wI_k (by omega), zI_wI_s, zI_wI_k (by omega), zI_wI_s, zI_wI_s]
        exact ⟨rfl, rfl, rfl⟩
      · exact q2 u (by omega) u2
    · refine zFr_trans (x_tr (x_tr (zFr_wI (X := xl3 a t) ⟨rfl, by omega⟩) (zFr_wI (X := xl3 a t) ⟨rfl, by omega⟩)) (zFr_wI (X := xl3 a t) ⟨rfl, by omega⟩)) q3 (fun a' k _ e => ?_)
      unfold xl3 at e ⊢; omega
theorem L_la4 (d : Nat) {a : Nat} (ha : a + 1210 ≤ 606210) {l : yL} (hl : l.length ≤ 320) : ∀ (n t : Nat) (B : zM), t + n = l.length → rL l B → ∃ B', z_denF zQ (d + 1) mQ_layAside (386, [some (.ref 15), some (.int (zn a)), some (.int (zn t))], [], B) = some (none, B') ∧ (∀ u, t ≤ u → u < l.length → zI B' 52 (a + 240 + 3 * u) = zn (l.getD u s0).1 ∧ zI B' 52 (a + 241 + 3 * u) = zn (l.getD u s0).2.1 ∧ zI B' 52 (a + 242 + 3 * u) = zn (l.getD u s0).2.2) ∧ zFr 0 0 (xl4 a t) B B'
  | 0, t, B, ht, h1 => by
    refine ⟨B, ?_, fun u a b => by omega, zFr_refl _ _⟩
    rw [L_Q_layAside_386, h1.1, z_le_T (by omega) (by omega), cond_true]
  | n + 1, t, B, ht, h1 => by
    have hn := z_new_ge B
    obtain ⟨y1, y2, y3⟩ := h1.2 t (by omega)
    have fw : zFr 0 0 (fun a' _ => a' = 52) B (z_wI (z_wI (z_wI B 52 (a + 240 + 3 * t) (zn (l.getD t s0).1)) 52 (a + 241 + 3 * t) (zn (l.getD t s0).2.1)) 52 (a + 242 + 3 * t) (zn (l.getD t s0).2.2)) := x_tr (x_tr (zFr_wI (X := fun a' _ => a' = 52) rfl) (zFr_wI (X := fun a' _ => a' = 52) rfl)) (zFr_wI (X := fun a' _ => a' = 52) rfl)
    obtain ⟨B', q1, q2, q3⟩ := L_la4 d ha hl n (t + 1) _ (by omega) (rL_fr fw h1 (by omega) (fun a k _ _ e => by omega))
    have hn1 := z_new_ge (z_wI (z_wI (z_wI B 52 (a + 240 + 3 * t) (zn (l.getD t s0).1)) 52 (a + 241 + 3 * t) (zn (l.getD t s0).2.1)) 52 (a + 242 + 3 * t) (zn (l.getD t s0).2.2))
    refine ⟨B', ?_, fun u u1 u2 => ?_, ?_⟩
    · have e1 : zn a + (240 : Int32) + (3 : Int32) * zn t = zn (a + 240 + 3 * t) := by rw [nL_240, nL_3, zn_mul, zn_add, zn_add]
      have e2 : zn a + (241 : Int32) + (3 : Int32) * zn t = zn (a + 241 + 3 * t) := by rw [show (241 : Int32) = zn 241 from (zn_eq 241).symm, nL_3, zn_mul, zn_add, zn_add]
      have e3 : zn a + (242 : Int32) + (3 : Int32) * zn t = zn (a + 242 + 3 * t) := by rw [show (242 : Int32) = zn 242 from (zn_eq 242).symm, nL_3, zn_mul, zn_add, zn_add]
      rw [← q1, L_Q_layAside_386, h1.1, z_le_F (by omega) (by omega), cond_false, e1, e2, e3, z_ix_T (by omega) (by omega), z_ix_T (by omega) (by omega), z_ix_T (by omega) (by omega), z_ix_T (by omega) (by omega), zn_N (by omega), zn_N (by omega), zn_N (by omega), zn_N (by omega), y1, y2, y3, zn_1]
      simp only [cond_true]
    · by_cases e : u = t
      · subst e
        rw [zFr_I q3 _ (by omega) (fun q => by unfold xl4 at q; omega), zFr_I q3 _ (by omega) (fun q => by unfold xl4 at q; omega), zFr_I q3 _ (by omega) (fun q => by unfold xl4 at q; omega), zI_wI_k (by omega), zI_wI_k (by omega), zI_wI_s, zI_wI_k (by omega), zI_wI_s, zI_wI_s]
        exact ⟨rfl, rfl, rfl⟩
      · exact q2 u (by omega) u2
    · refine zFr_trans (x_tr (x_tr (zFr_wI (X := xl4 a t) ⟨rfl, by omega, by omega⟩) (zFr_wI (X := xl4 a t) ⟨rfl, by omega, by omega⟩)) (zFr_wI (X := xl4 a t) ⟨rfl, by omega, by omega⟩)) q3 (fun a' k _ e => ?_)
      unfold xl4 at e ⊢; omega
