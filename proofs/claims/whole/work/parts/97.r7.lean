/-! S LEVEL, PLAYING: what is laid aside, joined; what becomes again, the reference. -/
def xlA (a : Nat) (a' k : Nat) : Prop := a' = 52 ∧ a ≤ k ∧ k < a + 1210
theorem rY_52 {S : yR} {l : yL} {a : Nat} {B B' : zM} (f : zFr 0 0 (xlA a) B B') (h : rY S l B) : rY S l B' :=
  ⟨rB_fr f h.1 (fun e => by have := e.1; omega) (fun e => by have := e.1; omega) (fun a k _ e => by have := e.1; omega), rL_fr f h.2.1 (fun e => by have := e.1; omega) (fun a k _ _ e => by have := e.1; omega), rA_fr f h.2.2 (fun k _ e => by have := e.1; omega) (fun a k _ _ e => by have := e.1; omega) (fun _ _ _ _ _ => rfl)⟩
theorem L_la (d : Nat) {a : Nat} (ha : a + 1210 ≤ 606210) {S : yR} {l : yL} {B : zM} (hl : l.length ≤ 320) (h : rY S l B) (h6 : yG S 6 = 0 ∨ yG S 6 = 1) : ∃ B', z_denF zQ (d + 1) mQ_layAside (51, [some (.ref 15), some (.int (zn a)), some (.int 0)], [], B) = some (none, B') ∧ rW (yG S) l a B' ∧ rY S l B' ∧ zFr 0 0 (xlA a) B B' := by
  obtain ⟨w, hw⟩ : ∃ w, yG S 6 = bI w := by
    rcases h6 with e | e
    · exact ⟨false, by rw [e, bI_F, nL_0]⟩
    · exact ⟨true, by rw [e, bI_T, nL_1]⟩
  have hn := z_new_ge B
  obtain ⟨⟨a1, a2, a3, a4, a5, a6⟩, b, c, le, d1, d2, d3⟩ := h.2.2
  obtain ⟨B1, p1, p2, p3⟩ := L_la1 d ha 8 0 B rfl b le
  have g1 : zFr 0 0 (xlA a) B B1 := zFr_mono p3 (Nat.le_refl _) (Nat.le_refl _) (fun a' k e => by unfold xl1 at e; unfold xlA; omega)
  have y1 := rY_52 g1 h
  obtain ⟨⟨a1, a2, a3, a4, a5, a6⟩, b, c, le, d1, d2, d3⟩ := y1.2.2
  obtain ⟨B2, B3, q1, q2, q3, q4⟩ := L_la2 d ha (w := w) 16 0 B1 rfl c (by rw [a6]; exact hw)
  have hn1 := z_new_ge B1
  have g2 : zFr 0 0 (xlA a) B1 B2 := zFr_mono q4 (Nat.le_refl _) (Nat.le_refl _) (fun a' k e => by unfold xlA; omega)
  have y2 := rY_52 g2 y1
  obtain ⟨⟨a1, a2, a3, a4, a5, a6⟩, b, c, le, d1, d2, d3⟩ := y2.2.2
  have hn2 := z_new_ge B2
  have g3' := la13_fr B2 a (bI w) (t := 16) (Nat.le_refl _)
  rw [← q2] at g3'
  have g3 : zFr 0 0 (xlA a) B2 B3 := zFr_mono g3' (Nat.le_refl _) (Nat.le_refl _) (fun a' k e => by unfold xl2 at e; unfold xlA; omega)
  have y3 := rY_52 g3 y2
  have hn3 := z_new_ge B3
  obtain ⟨B4, s1, s2, s3⟩ := L_la3 d ha 60 0 B3 rfl y3.1.2.2.1
  have g4 : zFr 0 0 (xlA a) B3 B4 := zFr_mono s3 (Nat.le_refl _) (Nat.le_refl _) (fun a' k e => by unfold xl3 at e; unfold xlA; omega)
  have y4 := rY_52 g4 y3
  have hn4 := z_new_ge B4
  obtain ⟨B5, t1, t2, t3⟩ := L_la4 d ha hl l.length 0 B4 (Nat.zero_add _) y4.2.1
  have g5 : zFr 0 0 (xlA a) B4 B5 := zFr_mono t3 (Nat.le_refl _) (Nat.le_refl _) (fun a' k e => by unfold xl4 at e; unfold xlA; omega)
  have y5 := rY_52 g5 y4
  refine ⟨B5, ?_, ⟨fun t ht => ?_, fun c hc => ?_, ?_, fun i hi => ?_, fun k hk => t2 k (Nat.zero_le _) hk⟩, y5, x_tr (x_tr (x_tr (x_tr g1 g2) g3) g4) g5⟩
  · rw [nL_0, p1, nL_0, q1, nL_0, s1, nL_0, t1]
  · have k1 : ∀ m, a ≤ m → m < a + 16 → zI B5 52 m = zI B1 52 m := fun m m1 m2 => by
      rw [zFr_I t3 _ (by omega) (fun e => by unfold xl4 at e; omega), zFr_I s3 _ (by omega) (fun e => by unfold xl3 at e; omega), zFr_I g3' _ (by omega) (fun e => by unfold xl2 at e; omega), zFr_I q4 _ (by omega) (fun e => by omega)]
    rw [k1 _ (by omega) (by omega), k1 _ (by omega) (by omega)]
    exact p2 t (Nat.zero_le _) ht
  · rw [zFr_I t3 _ (by omega) (fun e => by unfold xl4 at e; omega), zFr_I s3 _ (by omega) (fun e => by unfold xl3 at e; omega), zFr_I g3' _ (by omega) (fun e => by unfold xl2 at e; omega)]
    exact q3 c (Nat.zero_le _) hc
  · have k3 : ∀ m, a + 32 ≤ m → m < a + 45 → zI B5 52 m = zI B3 52 m := fun m m1 m2 => by
      rw [zFr_I t3 _ (by omega) (fun e => by unfold xl4 at e; omega), zFr_I s3 _ (by omega) (fun e => by unfold xl3 at e; omega)]
    obtain ⟨r1, r2, -, -, -⟩ := y2.1
    have r5 := y2.2.1.1
    rw [k3 _ (by omega) (by omega), k3 _ (by omega) (by omega), k3 _ (by omega) (by omega), k3 _ (by omega) (by omega), k3 _ (by omega) (by omega), k3 _ (by omega) (by omega), k3 _ (by omega) (by omega), k3 _ (by omega) (by omega), k3 _ (by omega) (by omega), k3 _ (by omega) (by omega), k3 _ (by omega) (by omega), k3 _ (by omega) (by omega), k3 _ (by omega) (by omega), q2]
    unfold la13
    simp (disch := omega) only [zI_wI_k, zI_wI_s]
    exact ⟨a1, d3, d1, d2, a2, a3, r2, a4, a5, hw.symm, r5, r1⟩
  · rw [zFr_I t3 _ (by omega) (fun e => by unfold xl4 at e; omega), zFr_I t3 _ (by omega) (fun e => by unfold xl4 at e; omega), zFr_I t3 _ (by omega) (fun e => by unfold xl4 at e; omega)]
    exact s2 i (Nat.zero_le _) hi
def rHi (hi : yHs) (lo n : Nat) (B : zM) : Prop := ∀ t, lo ≤ t → t < n → rW (hi t).1 (hi t).2 (1210 * ((t + 1) % 501)) B
def xla (a k : Nat) : Prop := a = 52 ∨ (a = 15 ∧ (k = 62 ∨ k = 63))
theorem rY_la {S : yR} {l : yL} {B B' : zM} (f : zFr 0 0 xla B B') (h : rY S l B) : rY S l B' :=
  ⟨rB_fr f h.1 (fun e => by unfold xla at e; omega) (fun e => by unfold xla at e; omega) (fun a k _ e => by unfold xla at e; omega), rL_fr f h.2.1 (fun e => by unfold xla at e; omega) (fun a k _ _ e => by unfold xla at e; omega), rA_fr f h.2.2 (fun k _ e => by unfold xla at e; omega) (fun a k _ _ e => by unfold xla at e; omega) (fun _ _ _ _ _ => rfl)⟩
theorem r_lay (d : Nat) {S : yR} {l : yL} {B : zM} {hi : yHs} {lo go : Nat} (hl : l.length ≤ 320) (h : rY S l B) (h6 : yG S 6 = 0 ∨ yG S 6 = 1) (hh : rHi hi lo go B) (hls : ∀ t, lo ≤ t → t < go → (hi t).2.length ≤ 320) (hlo : lo ≤ go) (hlg : go ≤ lo + 501) (hg : go ≤ 20000) (h62 : zI B 15 62 = zn (go % 501)) (h63 : zI B 15 63 = zn (go - lo)) : ∃ B', z_den zQ (d + 1) mQ_layAside [.ref 15] B = some (none, B') ∧ rY S l B' ∧ rHi (upH hi go (yG S, l)) (max lo (go - 500)) (go + 1) B' ∧ zI B' 15 62 = zn ((go + 1) % 501) ∧ zI B' 15 63 = zn (go + 1 - max lo (go - 500)) ∧ zFr 0 0 xla B B' := by
  have hm := Nat.mod_lt go (show 501 > 0 by omega)
  have hm1 := Nat.mod_lt (go + 1) (show 501 > 0 by omega)
  have e1 : (go % 501 + 1) - (go % 501 + 1) / 501 * 501 = (go + 1) % 501 := by omega
  have e2 := Nat.div_mul_le_self (go % 501 + 1) 501
  have z5 : (zn (go % 501) + 1) - (zn (go % 501) + 1) / 501 * 501 = zn ((go + 1) % 501) := by
    rw [zn_1, nL_501, zn_div (by omega) (by omega), zn_mul, zn_sub e2, e1]
  have key : ∀ v, v = zn (go + 1 - max lo (go - 500)) → ∃ B', z_denF zQ (d + 1) mQ_layAside (51, [some (.ref 15), some (.int ((1210 : Int32) * zn ((go + 1) % 501))), some (.int 0)], [], z_wI (z_wI B 15 62 (zn ((go + 1) % 501))) 15 63 v) = some (none, B') ∧ rY S l B' ∧ rHi (upH hi go (yG S, l)) (max lo (go - 500)) (go + 1) B' ∧ zI B' 15 62 = zn ((go + 1) % 501) ∧ zI B' 15 63 = zn (go + 1 - max lo (go - 500)) ∧ zFr 0 0 xla B B' := by
    intro v hv
    have f1 : zFr 0 0 (fun a k => a = 15 ∧ (k = 62 ∨ k = 63)) B (z_wI (z_wI B 15 62 (zn ((go + 1) % 501))) 15 63 v) := x_tr (zFr_wI (X := fun a k => a = 15 ∧ (k = 62 ∨ k = 63)) ⟨rfl, Or.inl rfl⟩) (zFr_wI (X := fun a k => a = 15 ∧ (k = 62 ∨ k = 63)) ⟨rfl, Or.inr rfl⟩)
    have f2 : zFr 0 0 xla B (z_wI (z_wI B 15 62 (zn ((go + 1) % 501))) 15 63 v) := zFr_mono f1 (Nat.le_refl _) (Nat.le_refl _) (fun _ _ e => Or.inr e)
    have hn1 := z_new_ge (z_wI (z_wI B 15 62 (zn ((go + 1) % 501))) 15 63 v)
    have hn := z_new_ge B
    obtain ⟨B', q1, q2, q3, q4⟩ := L_la d (a := 1210 * ((go + 1) % 501)) (by omega) hl (rY_la f2 h) h6
    refine ⟨B', ?_, q3, fun t t1 t2 => ?_, ?_, ?_, zFr_trans f2 q4 (fun _ _ _ e => Or.inl e.1)⟩
    · rw [nL_1210, zn_mul]; exact q1
    · by_cases e : t = go
      · subst e
        unfold upH
        rw [if_pos rfl]; exact q2
      · unfold upH
        rw [if_neg e]
        refine rW_cg (hh t (by omega) (by omega)) (hls t (by omega) (by omega)) (fun m m1 m2 => ?_)
        rw [zFr_I q4 _ (by omega) (fun e => by unfold xlA at e; omega), zI_wI_a (by omega), zI_wI_a (by omega)]
    · rw [zFr_I q4 _ (by omega) (fun e => by unfold xlA at e; omega), zI_wI_k (by omega), zI_wI_s]
    · rw [zFr_I q4 _ (by omega) (fun e => by unfold xlA at e; omega), zI_wI_s, hv]
  rw [B_Q_layAside, show z_ne (501 : Int32) 0 = true by rw [z_ne_eq]; rfl, cond_true, h62, z5]
  simp (disch := omega) only [zI_wI_k, zI_wI_s]
  rw [h63]
  by_cases g : 501 ≤ go - lo
  · rw [show z_le (501 : Int32) (zn (go - lo)) = true by rw [nL_501]; exact z_le_T g (by omega), cond_true]
    refine key 501 ?_
    rw [nL_501]; congr 1; omega
  · rw [show z_le (501 : Int32) (zn (go - lo)) = false by rw [nL_501]; exact z_le_F (by omega) (by omega), cond_false]
    refine key (zn (go - lo) + 1) ?_
    rw [zn_1]; congr 1; omega
/-! becomes -/
theorem L_be1 (d : Nat) {a : Nat} (ha : a + 1210 ≤ 606210) {g : Nat → Int32} {l : yL} : ∀ (n t : Nat) (B : zM), t + n = 8 → rW g l a B → ∃ B', z_denF zQ (d + 1) mQ_becomes (2, [some (.ref 15), some (.int (zn a)), some (.int (zn t))], [], B) = z_denF zQ (d + 1) mQ_becomes (56, [some (.ref 15), some (.int (zn a)), some (.int 0)], [], B') ∧ (∀ u, t ≤ u → u < 8 → zI B' 43 u = bI (btF (g 7) u) ∧ zI B' 44 u = g (15 + u)) ∧ zFr 0 0 (fun a' k => (a' = 43 ∨ a' = 44) ∧ t ≤ k) B B'
  | 0, t, B, ht, h => by
    refine ⟨B, ?_, fun u a b => by omega, zFr_refl _ _⟩
    rw [L_Q_becomes_2, nL_8, z_le_T (by omega) (by omega), cond_true]
  | n + 1, t, B, ht, h => by
    have hn := z_new_ge B
    obtain ⟨y1, y2⟩ := h.1 t (by omega)
    have fw : zFr 0 0 (fun a' k => (a' = 43 ∨ a' = 44) ∧ t ≤ k) B (z_wI (z_wI B 43 t (bI (btF (g 7) t))) 44 t (g (15 + t))) := x_tr (zFr_wI (X := fun a' k => (a' = 43 ∨ a' = 44) ∧ t ≤ k) ⟨Or.inl rfl, Nat.le_refl _⟩) (zFr_wI (X := fun a' k => (a' = 43 ∨ a' = 44) ∧ t ≤ k) ⟨Or.inr rfl, Nat.le_refl _⟩)
    have e52 : ∀ m, zI (z_wI (z_wI B 43 t (bI (btF (g 7) t))) 44 t (g (15 + t))) 52 m = zI B 52 m := fun m => by rw [zI_wI_a (by omega), zI_wI_a (by omega)]
    have hW : rW g l a (z_wI (z_wI B 43 t (bI (btF (g 7) t))) 44 t (g (15 + t))) := by unfold rW; simp only [e52]; exact h
    obtain ⟨B', q1, q2, q3⟩ := L_be1 d ha n (t + 1) _ (by omega) hW
    have hn1 := z_new_ge (z_wI (z_wI B 43 t (bI (btF (g 7) t))) 44 t (g (15 + t)))
    refine ⟨B', ?_, fun u u1 u2 => ?_, zFr_trans fw q3 (fun a' k _ e => by omega)⟩
    · rw [← q1, L_Q_becomes_2, nL_8, z_le_F (by omega) (by omega), cond_false, zn_add, z_ix_T (by omega) (by omega), zn_add, zn_add, z_ix_T (by omega) (by omega), z_ix_T (by omega) (by omega), zn_N (by omega), zn_N (by omega), zn_N (by omega), y1, y2, bI_n1', zn_1]
      simp only [cond_true]
      cases btF (g 7) t
      · rw [show (!false) = true from rfl, cond_true, bI_F, nL_0]
      · rw [show (!true) = false from rfl, cond_false, bI_T, nL_1]
    · by_cases e : u = t
      · subst e
        rw [zFr_I q3 _ (by omega) (fun q => by omega), zFr_I q3 _ (by omega) (fun q => by omega), zI_wI_a (by omega), zI_wI_s, zI_wI_s]
        exact ⟨rfl, rfl⟩
      · exact q2 u (by omega) u2
noncomputable def be13 (B : zM) (a : Nat) (w : Int32) : zM := z_wI (z_wI (z_wI (z_wI (z_wI (z_wI (z_wI (z_wI (z_wI (z_wI (z_wI (z_wI (z_wI B 15 41 (zI B 52 (a + 32))) 15 42 (zI B 52 (a + 33))) 15 43 (zI B 52 (a + 34))) 15 44 (zI B 52 (a + 35))) 15 45 (zI B 52 (a + 36))) 15 46 (zI B 52 (a + 37))) 15 47 (zI B 52 (a + 38))) 15 48 (zI B 52 (a + 39))) 15 49 (zI B 52 (a + 40))) 15 50 (zI B 52 (a + 41))) 15 51 w) 15 52 (zI B 52 (a + 43))) 15 58 (zI B 52 (a + 44))
def xb13 (a' k : Nat) : Prop := a' = 15 ∧ ((41 ≤ k ∧ k ≤ 52) ∨ k = 58)
theorem be13_fr (B : zM) (a : Nat) (w : Int32) : zFr 0 0 xb13 B (be13 B a w) := by
  have x : ∀ (M : zM) k v, (41 ≤ k ∧ k ≤ 52) ∨ k = 58 → zFr 0 0 xb13 M (z_wI M 15 k v) := fun M k v h1 => zFr_wI (X := xb13) ⟨rfl, h1⟩
  unfold be13
  exact x_tr (x_tr (x_tr (x_tr (x_tr (x_tr (x_tr (x_tr (x_tr (x_tr (x_tr (x_tr (x _ _ _ (by omega)) (x _ _ _ (by omega))) (x _ _ _ (by omega))) (x _ _ _ (by omega))) (x _ _ _ (by omega))) (x _ _ _ (by omega))) (x _ _ _ (by omega))) (x _ _ _ (by omega))) (x _ _ _ (by omega))) (x _ _ _ (by omega))) (x _ _ _ (by omega))) (x _ _ _ (by omega))) (x _ _ _ (by omega))
theorem L_be2 (d : Nat) {a : Nat} (ha : a + 1210 ≤ 606210) {g : Nat → Int32} {l : yL} {w : Bool} (hw : g 6 = bI w) : ∀ (n t : Nat) (B : zM), t + n = 16 → rW g l a B → ∃ B1 B', z_denF zQ (d + 1) mQ_becomes (56, [some (.ref 15), some (.int (zn a)), some (.int (zn t))], [], B) = z_denF zQ (d + 1) mQ_becomes (274, [some (.ref 15), some (.int (zn a)), some (.int 0)], [], B') ∧ B' = be13 B1 a (bI w) ∧ (∀ u, t ≤ u → u < 16 → zI B1 45 u = bI (btF (g 8) u)) ∧ zFr 0 0 (fun a' k => a' = 45 ∧ t ≤ k) B B1
  | 0, t, B, ht, h => by
    refine ⟨B, be13 B a (bI w), ?_, rfl, fun u a b => by omega, zFr_refl _ _⟩
    have e42 : zI B 52 (a + 42) = bI w := by rw [h.2.2.1.2.2.2.2.2.2.2.2.2.1]; exact hw
    have c : ∀ j, j < 45 → ∀ x : Int32, x = zn j → z_ix (zn a + x) 606210 = true ∧ Int32.toNatClampNeg (zn a + x) = a + j := fun j hj x hx => by
      rw [hx, zn_add]; exact ⟨z_ix_T (by omega) (by omega), zn_N (by omega)⟩
    have c32 := c 32 (by omega) 32 nL_32
    have c33 := c 33 (by omega) 33 (zn_eq 33).symm
    have c34 := c 34 (by omega) 34 (zn_eq 34).symm
    have c35 := c 35 (by omega) 35 (zn_eq 35).symm
    have c36 := c 36 (by omega) 36 (zn_eq 36).symm
    have c37 := c 37 (by omega) 37 (zn_eq 37).symm
    have c38 := c 38 (by omega) 38 (zn_eq 38).symm
    have c39 := c 39 (by omega) 39 (zn_eq 39).symm
    have c40 := c 40 (by omega) 40 (zn_eq 40).symm
    have c41 := c 41 (by omega) 41 (zn_eq 41).symm
    have c42 := c 42 (by omega) 42 (zn_eq 42).symm
    have c43 := c 43 (by omega) 43 (zn_eq 43).symm
    have c44 := c 44 (by omega) 44 (zn_eq 44).symm
    rw [L_Q_becomes_56, show z_le (16 : Int32) (zn t) = true by rw [nL_16]; exact z_le_T (by omega) (by omega), cond_true]
    simp only [c32.1, c33.1, c34.1, c35.1, c36.1, c37.1, c38.1, c39.1, c40.1, c41.1, c42.1, c43.1, c44.1, c32.2, c33.2, c34.2, c35.2, c36.2, c37.2, c38.2, c39.2, c40.2, c41.2, c42.2, c43.2, c44.2, cond_true, e42, bI_n1']
    unfold be13
    cases w
    · rw [show (!false) = true from rfl, cond_true, bI_F, nL_0]
    · rw [show (!true) = false from rfl, cond_false, bI_T, nL_1]
  | n + 1, t, B, ht, h => by
    have hn := z_new_ge B
    have y1 := h.2.1 t (by omega)
    have e52 : ∀ m, zI (z_wI B 45 t (bI (btF (g 8) t))) 52 m = zI B 52 m := fun m => by rw [zI_wI_a (by omega)]
    have hW : rW g l a (z_wI B 45 t (bI (btF (g 8) t))) := by unfold rW; simp only [e52]; exact h
    obtain ⟨B1, B', q1, q2, q3, q4⟩ := L_be2 d ha hw n (t + 1) _ (by omega) hW
    have hn1 := z_new_ge (z_wI B 45 t (bI (btF (g 8) t)))
    refine ⟨B1, B', ?_, q2, fun u u1 u2 => ?_, ?_⟩
    · have e16 : zn a + (16 : Int32) + zn t = zn (a + 16 + t) := by rw [nL_16, zn_add, zn_add]
      rw [← q1, L_Q_becomes_56, show z_le (16 : Int32) (zn t) = false by rw [nL_16]; exact z_le_F (by omega) (by omega), cond_false, e16, z_ix_T (by omega) (by omega), cond_true, z_ix_T (by omega) (by omega), cond_true, cond_true, zn_N (by omega), zn_N (by omega), y1, bI_n1', zn_1]
      cases btF (g 8) t
      · rw [show (!false) = true from rfl, cond_true, bI_F, nL_0]
      · rw [show (!true) = false from rfl, cond_false, bI_T, nL_1]
    · by_cases e : u = t
      · subst e
        rw [zFr_I q4 _ (by omega) (fun q => by omega), zI_wI_s]
      · exact q3 u (by omega) u2
    · refine zFr_trans (zFr_wI (X := fun a' k => a' = 45 ∧ t ≤ k) ⟨rfl, Nat.le_refl _⟩) q4 (fun a' k _ e => ?_)
      omega
theorem L_be3 (d : Nat) {a : Nat} (ha : a + 1210 ≤ 606210) {g : Nat → Int32} {l : yL} : ∀ (n t : Nat) (B : zM), t + n = 60 → rW g l a B → ∃ B', z_denF zQ (d + 1) mQ_becomes (274, [some (.ref 15), some (.int (zn a)), some (.int (zn t))], [], B) = z_denF zQ (d + 1) mQ_becomes (340, [some (.ref 15), some (.int (zn a)), some (.int 0)], [], B') ∧ (∀ u, t ≤ u → u < 60 → zI B' 30 u = g (23 + u) ∧ zI B' 49 u = g (83 + u) ∧ zI B' 50 u = g (143 + u)) ∧ zFr 0 0 (fun a' k => (a' = 30 ∨ a' = 49 ∨ a' = 50) ∧ t ≤ k) B B'
  | 0, t, B, ht, h => by
    refine ⟨B, ?_, fun u a b => by omega, zFr_refl _ _⟩
    rw [L_Q_becomes_274, nL_60, z_le_T (by omega) (by omega), cond_true]
  | n + 1, t, B, ht, h => by
    have hn := z_new_ge B
    obtain ⟨y1, y2, y3⟩ := h.2.2.2.1 t (by omega)
    have e52 : ∀ m, zI (z_wI (z_wI (z_wI B 30 t (g (23 + t))) 49 t (g (83 + t))) 50 t (g (143 + t))) 52 m = zI B 52 m := fun m => by rw [zI_wI_a (by omega), zI_wI_a (by omega), zI_wI_a (by omega)]
    have hW : rW g l a (z_wI (z_wI (z_wI B 30 t (g (23 + t))) 49 t (g (83 + t))) 50 t (g (143 + t))) := by unfold rW; simp only [e52]; exact h
    obtain ⟨B', q1, q2, q3⟩ := L_be3 d ha n (t + 1) _ (by omega) hW
    have hn1 := z_new_ge (z_wI (z_wI (z_wI B 30 t (g (23 + t))) 49 t (g (83 + t))) 50 t (g (143 + t)))
    refine ⟨B', ?_, fun u u1 u2 => ?_, ?_⟩
    · have e1 : zn a + (50 : Int32) + zn t = zn (a + 50 + t) := by rw [nL_50, zn_add, zn_add]
      have e2 : zn a + (110 : Int32) + zn t = zn (a + 110 + t) := by rw [nL_110, zn_add, zn_add]
      have e3 : zn a + (170 : Int32) + zn t = zn (a + 170 + t) := by rw [nL_170, zn_add, zn_add]
      rw [← q1, L_Q_becomes_274, nL_60, z_le_F (by omega) (by omega), cond_false, e1, e2, e3, z_ix_T (by omega) (by omega), z_ix_T (by omega) (by omega), z_ix_T (by omega) (by omega), z_ix_T (by omega) (by omega), zn_N (by omega), zn_N (by omega), zn_N (by omega), zn_N (by omega), y1, y2, y3, zn_1]
      simp only [cond_true]
    · by_cases e : u = t
      · subst e
        rw [zFr_I q3 _ (by omega) (fun q => by omega), zFr_I q3 _ (by omega) (fun q => by omega), zFr_I q3 _ (by omega) (fun q => by omega), zI_wI_a (by omega), zI_wI_a (by omega), zI_wI_s, zI_wI_a (by omega), zI_wI_s, zI_wI_s]
        exact ⟨rfl, rfl, rfl⟩
      · exact q2 u (by omega) u2
    · refine zFr_trans (x_tr (x_tr (zFr_wI (X := fun a' k => (a' = 30 ∨ a' = 49 ∨ a' = 50) ∧ t ≤ k) ⟨by omega, Nat.le_refl _⟩) (zFr_wI (X := fun a' k => (a' = 30 ∨ a' = 49 ∨ a' = 50) ∧ t ≤ k) ⟨by omega, Nat.le_refl _⟩)) (zFr_wI (X := fun a' k => (a' = 30 ∨ a' = 49 ∨ a' = 50) ∧ t ≤ k) ⟨by omega, Nat.le_refl _⟩)) q3 (fun a' k _ e => by omega)
theorem L_be4 (d : Nat) {a : Nat} (ha : a + 1210 ≤ 606210) {g : Nat → Int32} {l : yL} (hl : l.length ≤ 320) : ∀ (n t : Nat) (B : zM), t + n = l.length → rW g l a B → zI B 15 52 = zn l.length → ∃ B', z_denF zQ (d + 1) mQ_becomes (340, [some (.ref 15), some (.int (zn a)), some (.int (zn t))], [], B) = some (none, B') ∧ (∀ u, t ≤ u → u < l.length → zI B' 46 u = zn (l.getD u s0).1 ∧ zI B' 47 u = zn (l.getD u s0).2.1 ∧ zI B' 48 u = zn (l.getD u s0).2.2) ∧ zFr 0 0 (fun a' k => (46 ≤ a' ∧ a' ≤ 48) ∧ t ≤ k) B B'
  | 0, t, B, ht, h, h52 => by
    refine ⟨B, ?_, fun u a b => by omega, zFr_refl _ _⟩
    rw [L_Q_becomes_340, h52, z_le_T (by omega) (by omega), cond_true]
  | n + 1, t, B, ht, h, h52 => by
    have hn := z_new_ge B
    obtain ⟨y1, y2, y3⟩ := h.2.2.2.2 t (by omega)
    have e52 : ∀ m, zI (z_wI (z_wI (z_wI B 46 t (zn (l.getD t s0).1)) 47 t (zn (l.getD t s0).2.1)) 48 t (zn (l.getD t s0).2.2)) 52 m = zI B 52 m := fun m => by rw [zI_wI_a (by omega), zI_wI_a (by omega), zI_wI_a (by omega)]
    have hW : rW g l a (z_wI (z_wI (z_wI B 46 t (zn (l.getD t s0).1)) 47 t (zn (l.getD t s0).2.1)) 48 t (zn (l.getD t s0).2.2)) := by unfold rW; simp only [e52]; exact h
    obtain ⟨B', q1, q2, q3⟩ := L_be4 d ha hl n (t + 1) _ (by omega) hW (by simp (disch := omega) only [zI_wI_a]; exact h52)
    have hn1 := z_new_ge (z_wI (z_wI (z_wI B 46 t (zn (l.getD t s0).1)) 47 t (zn (l.getD t s0).2.1)) 48 t (zn (l.getD t s0).2.2))
    refine ⟨B', ?_, fun u u1 u2 => ?_, ?_⟩
    · have e1 : zn a + (240 : Int32) + (3 : Int32) * zn t = zn (a + 240 + 3 * t) := by rw [nL_240, nL_3, zn_mul, zn_add, zn_add]
      have e2 : zn a + (241 : Int32) + (3 : Int32) * zn t = zn (a + 241 + 3 * t) := by rw [show (241 : Int32) = zn 241 from (zn_eq 241).symm, nL_3, zn_mul, zn_add, zn_add]
      have e3 : zn a + (242 : Int32) + (3 : Int32) * zn t = zn (a + 242 + 3 * t) := by rw [show (242 : Int32) = zn 242 from (zn_eq 242).symm, nL_3, zn_mul, zn_add, zn_add]
      rw [← q1, L_Q_becomes_340, h52, z_le_F (by omega) (by omega), cond_false, e1, e2, e3, z_ix_T (by omega) (by omega), z_ix_T (by omega) (by omega), z_ix_T (by omega) (by omega), z_ix_T (by omega) (by omega), zn_N (by omega), zn_N (by omega), zn_N (by omega), zn_N (by omega), y1, y2, y3, zn_1]
      simp only [cond_true]
    · by_cases e : u = t
      · subst e
        rw [zFr_I q3 _ (by omega) (fun q => by omega), zFr_I q3 _ (by omega) (fun q => by omega), zFr_I q3 _ (by omega) (fun q => by omega), zI_wI_a (by omega), zI_wI_a (by omega), zI_wI_s, zI_wI_a (by omega), zI_wI_s, zI_wI_s]
        exact ⟨rfl, rfl, rfl⟩
      · exact q2 u (by omega) u2
    · refine zFr_trans (x_tr (x_tr (zFr_wI (X := fun a' k => (46 ≤ a' ∧ a' ≤ 48) ∧ t ≤ k) ⟨by omega, Nat.le_refl _⟩) (zFr_wI (X := fun a' k => (46 ≤ a' ∧ a' ≤ 48) ∧ t ≤ k) ⟨by omega, Nat.le_refl _⟩)) (zFr_wI (X := fun a' k => (46 ≤ a' ∧ a' ≤ 48) ∧ t ≤ k) ⟨by omega, Nat.le_refl _⟩)) q3 (fun a' k _ e => by omega)
def xbe (a k : Nat) : Prop := (a = 15 ∧ ((41 ≤ k ∧ k ≤ 52) ∨ k = 58)) ∨ a = 30 ∨ (43 ≤ a ∧ a ≤ 50)
theorem r_bec (d : Nat) {a : Nat} (ha : a + 1210 ≤ 606210) {S : yR} {g : Nat → Int32} {l0 l : yL} {B : zM} (hl : l.length ≤ 320) (h : rW g l a B) (h0 : rY S l0 B) (h6 : g 6 = 0 ∨ g 6 = 1) : ∃ B', z_den zQ (d + 1) mQ_becomes [.ref 15, .int (zn a)] B = some (none, B') ∧ rY (g, yE S, yT S) l B' ∧ zFr 0 0 xbe B B' := by
  obtain ⟨w, hw⟩ : ∃ w, g 6 = bI w := by
    rcases h6 with e | e
    · exact ⟨false, by rw [e, bI_F, nL_0]⟩
    · exact ⟨true, by rw [e, bI_T, nL_1]⟩
  have hn := z_new_ge B
  obtain ⟨B1, p1, p2, p3⟩ := L_be1 d ha 8 0 B rfl h
  have hn1 := z_new_ge B1
  have W : ∀ {M M' : zM} {X : Nat → Nat → Prop}, rW g l a M → zFr 0 0 X M M' → (∀ k, ¬ X 52 k) → rW g l a M' := fun hM hf hx => rW_cg hM hl (fun m _ _ => zFr_I hf _ (Nat.lt_of_lt_of_le (by omega) (z_new_ge _)) (hx m))
  have h1 := W h p3 (fun k => by omega)
  obtain ⟨B2, B3, q1, q2, q3, q4⟩ := L_be2 d ha hw 16 0 B1 rfl h1
  have h2 := W h1 q4 (fun k => by omega)
  have hn2 := z_new_ge B2
  have g3 := be13_fr B2 a (bI w)
  rw [← q2] at g3
  have h3 := W h2 g3 (fun k e => by unfold xb13 at e; omega)
  have hn3 := z_new_ge B3
  obtain ⟨B4, s1, s2, s3⟩ := L_be3 d ha 60 0 B3 rfl h3
  have h4 := W h3 s3 (fun k => by omega)
  have hn4 := z_new_ge B4
  have e15 : ∀ k, zI B4 15 k = zI B3 15 k := fun k => zFr_I s3 _ (by omega) (fun e => by omega)
  obtain ⟨c1, c2, ⟨a0, a1, a2, a3, a4, a5, a6, a7, a8, a9, a10, a11⟩, c4, c5⟩ := h2
  have e52 : zI B4 15 52 = zn l.length := by
    rw [e15, q2]; unfold be13
    rw [zI_wI_k (by omega), zI_wI_s]; exact a10
  obtain ⟨B5, t1, t2, t3⟩ := L_be4 d ha hl l.length 0 B4 (Nat.zero_add _) h4 e52
  have f15 : ∀ k, zI B5 15 k = zI B3 15 k := fun k => by rw [zFr_I t3 _ (by omega) (fun e => by omega)]; exact e15 k
  have F : zFr 0 0 xbe B B5 := by
    have m1 : zFr 0 0 xbe B B1 := zFr_mono p3 (Nat.le_refl _) (Nat.le_refl _) (fun a' k e => by unfold xbe; omega)
    have m2 : zFr 0 0 xbe B1 B2 := zFr_mono q4 (Nat.le_refl _) (Nat.le_refl _) (fun a' k e => by unfold xbe; omega)
    have m3 : zFr 0 0 xbe B2 B3 := zFr_mono g3 (Nat.le_refl _) (Nat.le_refl _) (fun a' k e => by unfold xb13 at e; unfold xbe; omega)
    have m4 : zFr 0 0 xbe B3 B4 := zFr_mono s3 (Nat.le_refl _) (Nat.le_refl _) (fun a' k e => by unfold xbe; omega)
    have m5 : zFr 0 0 xbe B4 B5 := zFr_mono t3 (Nat.le_refl _) (Nat.le_refl _) (fun a' k e => by unfold xbe; omega)
    exact x_tr (x_tr (x_tr (x_tr m1 m2) m3) m4) m5
  obtain ⟨-, -, -, k4, k5⟩ := h0.1
  refine ⟨B5, ?_, ⟨⟨?_, ?_, fun i hi => ?_, fun j hj => ?_, fun j hj => ?_⟩, ⟨?_, fun k hk => t2 k (Nat.zero_le _) hk⟩, ⟨?_, fun t ht => ?_, fun c hc => ?_, fun t ht => ?_, ?_, ?_, ?_⟩⟩, F⟩
  · rw [B_Q_becomes, nL_0, p1, nL_0, q1, nL_0, s1, nL_0, t1]
  · rw [f15, q2]; unfold be13; rw [zI_wI_s]; exact a11
  · rw [f15, q2]; unfold be13; simp (disch := omega) only [zI_wI_k, zI_wI_s]; exact a6
  · rw [zFr_I t3 _ (by omega) (fun e => by omega), zFr_I t3 _ (by omega) (fun e => by omega), zFr_I t3 _ (by omega) (fun e => by omega)]
    exact s2 i (Nat.zero_le _) hi
  · rw [zFr_I F _ (by omega) (fun e => by unfold xbe at e; omega)]; exact k4 j hj
  · rw [zFr_I F _ (by omega) (fun e => by unfold xbe at e; omega)]; exact k5 j hj
  · rw [f15, q2]; unfold be13; simp (disch := omega) only [zI_wI_k, zI_wI_s]; exact a10
  · rw [f15, f15, f15, f15, f15, f15, q2]; unfold be13; simp (disch := omega) only [zI_wI_k, zI_wI_s]
    exact ⟨a0, a4, a5, a7, a8, hw.symm⟩
  · rw [zFr_I t3 _ (by omega) (fun e => by omega), zFr_I s3 _ (by omega) (fun e => by omega), zFr_I g3 _ (by omega) (fun e => by unfold xb13 at e; omega), zFr_I q4 _ (by omega) (fun e => by omega)]
    exact (p2 t (Nat.zero_le _) ht).1
  · rw [zFr_I t3 _ (by omega) (fun e => by omega), zFr_I s3 _ (by omega) (fun e => by omega), zFr_I g3 _ (by omega) (fun e => by unfold xb13 at e; omega)]
    exact q3 c (Nat.zero_le _) hc
  · rw [zFr_I t3 _ (by omega) (fun e => by omega), zFr_I s3 _ (by omega) (fun e => by omega), zFr_I g3 _ (by omega) (fun e => by unfold xb13 at e; omega), zFr_I q4 _ (by omega) (fun e => by omega)]
    exact (p2 t (Nat.zero_le _) ht).2
  · rw [f15, q2]; unfold be13; simp (disch := omega) only [zI_wI_k, zI_wI_s]; exact a2
  · rw [f15, q2]; unfold be13; simp (disch := omega) only [zI_wI_k, zI_wI_s]; exact a3
  · intro hh
    rw [f15, f15, q2]; unfold be13; simp (disch := omega) only [zI_wI_k, zI_wI_s]; exact a1 hh
