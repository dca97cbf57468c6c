/-! S LEVEL, acts: transpose. -/
noncomputable def svF (h n : Int32) : Int32 := if n.toInt < 0 then h >>> (-n &&& zn 31) else h <<< (n &&& zn 31)
noncomputable def elV (e n : Int32) : Int32 := ebF (svF (e &&& zn 255) n) 0
noncomputable def trT (T : zT) (n : Int32) (k : Nat) : zT := (tK T, tN T, tU T, tL T, tH T, tS T, tB T, fun j => if j < k then elV (tE T j) n else tE T j)
theorem tE_tr (T : zT) (n : Int32) (k j : Nat) : tE (trT T n k) j = if j < k then elV (tE T j) n else tE T j := rfl
theorem tr_succ {T : zT} {n : Int32} {k : Nat} (hK : tK T = 0) : setE (trT T n k) k (loF (tK (trT T n k)) (svF (tE T k &&& zn 255) n)) = trT T n (k + 1) := by
  have e : loF (tK (trT T n k)) (svF (tE T k &&& zn 255) n) = elV (tE T k) n := by
    show loF (tK T) _ = _
    rw [hK]; unfold loF; rw [if_pos rfl]; rfl
  rw [e]
  suffices q : (fun j => if j = k then elV (tE T k) n else if j < k then elV (tE T j) n else tE T j) = (fun j => if j < k + 1 then elV (tE T j) n else tE T j) by
    show (tK T, tN T, tU T, tL T, tH T, tS T, tB T, (fun j => if j = k then elV (tE T k) n else if j < k then elV (tE T j) n else tE T j)) = (tK T, tN T, tU T, tL T, tH T, tS T, tB T, (fun j => if j < k + 1 then elV (tE T j) n else tE T j))
    rw [q]
  funext j
  show (if j = k then elV (tE T k) n else if j < k then elV (tE T j) n else tE T j) = _
  by_cases g : j = k
  · rw [if_pos g, if_pos (by omega), g]
  · rw [if_neg g]
    by_cases g2 : j < k
    · rw [if_pos g2, if_pos (by omega)]
    · rw [if_neg g2, if_neg (by omega)]
theorem tr_0 (T : zT) (n : Int32) : trT T n 0 = T := by
  unfold trT
  obtain ⟨a, b, c, d, e, f, g, h⟩ := T
  congr 7
theorem wT_tr {T : zT} (h : wT T) (hK : tK T = 0) (n : Int32) (k : Nat) : wT (trT T n k) := by
  obtain ⟨w1, w2, w3, w4, w5, w6, w7, w8, w9⟩ := h
  refine ⟨w1, w2, w3, w4, w5, w6, w7, w8, fun j hj => ?_⟩
  show loF (tK T) _ = _
  rw [tE_tr]
  by_cases g : j < k
  · rw [if_pos g, hK]; unfold loF; rw [if_pos rfl]; exact eb_eb _ (by omega)
  · rw [if_neg g]; exact w9 j hj
noncomputable def faF (T : zT) (n : Int32) : Nat → Nat → zFl → zFl
  | 0, _, F => F
  | m + 1, k, F => faF T n m (k + 1) (nfF (tE T k &&& zn 255) n k 8 0 F)
def zF0 : zFl := (0, fun _ => 0, fun _ => 0)
theorem wFl_0 : wFl zF0 := ⟨Nat.zero_le _, fun k hk => absurd hk (Nat.not_lt_zero _)⟩
theorem fa_w {T : zT} {n : Int32} {S : Nat} (hS : S ≤ 256) (h1 : -7 ≤ n.toInt) (h2 : n.toInt ≤ 7) : ∀ (m k : Nat) (F : zFl), k + m = S → wFl F → F.1 ≤ 7 * k → wFl (faF T n m k F)
  | 0, k, F, _, w, _ => w
  | m + 1, k, F, hk, w, hc => by
    have h7 := ofR_7 h1 h2
    obtain ⟨a, b⟩ := nf_w (h := tE T k &&& zn 255) (n := n) (k := k) (by omega) 8 0 F (by omega) w (by omega)
    exact fa_w hS h1 h2 m (k + 1) _ (by omega) a (by omega)
noncomputable def oTransp (pl : Bool) (G : zG) (F : zFl) (x y n : Int32) : Int32 × Int32 × zG × zFl := pif (sOk G x y ∧ (-7 ≤ n.toInt ∧ n.toInt ≤ 7)) (if pl = true then (-3, -3, G, F) else if tK (sA G x y) ≠ 0 then ((-10) - zn 5, zn 5, G, F) else if findT (sA G x y) ≠ 0 then ((-10) - zn (findT (sA G x y)), zn (findT (sA G x y)), G, F) else (zn (faF (sA G x y) n (tS (sA G x y)) 0 zF0).1, zn 0, updT G (pO G x y) (sealT (trT (sA G x y) n (tS (sA G x y)))) (gE G), faF (sA G x y) n (tS (sA G x y)) 0 zF0)) (-1, -1, G, F)
def xcF (A : zM) : Nat → Nat → Prop := fun a k => xcS A a k ∨ (a = 1 ∧ k = 6) ∨ a = 14
def xrF : Nat → Nat → Prop := fun a k => xrS a k ∨ (a = 15 ∧ k = 65) ∨ a = 54 ∨ a = 55
def cResF (c s : Nat) (A : zM) (r : Int32 × Int32 × zG × zFl) (o : zR) : Prop := ∃ A' al', o = some (some (.int r.1), A') ∧ cG r.2.2.1 al' A' ∧ cF r.2.2.2 A' ∧ zI A' 1 7 = r.2.1 ∧ zFr c s (xcF A) A A'
def rResF (B : zM) (r : Int32 × Int32 × zG × zFl) (o : zR) : Prop := ∃ B', o = some (some (.int r.1), B') ∧ rG r.2.2.1 B' ∧ rF r.2.2.2 B' ∧ zI B' 15 0 = r.2.1 ∧ zFr 0 0 xrF B B'
theorem xcS_nF (A : zM) : ¬ xcS A 1 6 ∧ ∀ k, ¬ xcS A 14 k := by
  refine ⟨fun h => ?_, fun k h => ?_⟩
  · rcases h with h | h | ⟨h, hh, ht⟩
    · omega
    · omega
    · have := hd_lt56 (t := h.1) (n := h.2) hh ht; omega
  · rcases h with h | h | ⟨h, hh, ht⟩
    · omega
    · omega
    · have := hd_lt56 (t := h.1) (n := h.2) hh ht; omega
theorem cResF_st {c s : Nat} {A : zM} {G : zG} {F : zFl} {al : Nat → Nat} (hF : cF F A) (h : cG G al A) (x v : Int32) : cResF c s A (x, v, G, F) (some (some (.int x), z_wI A 1 7 v)) := by
  obtain ⟨A', al', h1, h2, h3, h4⟩ := cRes_st (c := c) (s := s) h x v
  exact ⟨A', al', h1, h2, cF_fr h4 hF (xcS_nF A).1 (xcS_nF A).2, h3, zFr_mono h4 (Nat.le_refl _) (Nat.le_refl _) (fun _ _ h => Or.inl h)⟩
theorem rResF_st {B : zM} {G : zG} {F : zFl} (hF : rF F B) (h : rG G B) (x v : Int32) : rResF B (x, v, G, F) (some (some (.int x), z_wI B 15 0 v)) := by
  obtain ⟨B', h1, h2, h3, h4⟩ := rRes_st h x v
  exact ⟨B', h1, h2, rF_fr h4 hF (by unfold xrS; omega) (fun k => by unfold xrS; omega), h3, zFr_mono h4 (Nat.le_refl _) (Nat.le_refl _) (fun _ _ h => Or.inl h)⟩
theorem cResF_of {c s : Nat} {A : zM} {r : Int32 × Int32 × zG} {F : zFl} {o : zR} (hF : cF F A) (h : cRes c s A r o) : cResF c s A (r.1, r.2.1, r.2.2, F) o := by
  obtain ⟨A', al', h1, h2, h3, h4⟩ := h
  exact ⟨A', al', h1, h2, cF_fr h4 hF (xcS_nF A).1 (xcS_nF A).2, h3, zFr_mono h4 (Nat.le_refl _) (Nat.le_refl _) (fun _ _ h => Or.inl h)⟩
theorem rResF_of {B : zM} {r : Int32 × Int32 × zG} {F : zFl} {o : zR} (hF : rF F B) (h : rRes B r o) : rResF B (r.1, r.2.1, r.2.2, F) o := by
  obtain ⟨B', h1, h2, h3, h4⟩ := h
  exact ⟨B', h1, h2, rF_fr h4 hF (by unfold xrS; omega) (fun k => by unfold xrS; omega), h3, zFr_mono h4 (Nat.le_refl _) (Nat.le_refl _) (fun _ _ h => Or.inl h)⟩
theorem cG_updX {c s : Nat} {X : Nat → Nat → Prop} {G : zG} {al : Nat → Nat} {A A' : zM} {p : Nat} {T : zT} {e : Nat} (h : cG G al A) (hp : p < gN G) (hX : ∀ a' k, X a' k → (a' = zP zQ A (al p) 4 ∨ (a' = al p ∧ (k = 4 ∨ k = 5 ∨ k = 6))) ∨ (a' < 56 ∧ a' ≠ 2 ∧ ¬ (a' = 1 ∧ (k = 3 ∨ k = 4)))) (hf : zFr c s X A A') (hT : cT A' (al p) T) (hb : zP zQ A' (al p) 4 = zP zQ A (al p) 4 ∨ z_new zQ A ≤ zP zQ A' (al p) 4) (he : zI A' 1 5 = zn e) : cG (updT G p T e) al A' := by
  have g56 := z_new_ge A
  obtain ⟨a1, a2, a3, a4, a5, a6, a7, a8, a9⟩ := h
  have hTp := a7 p hp
  obtain ⟨n, eb, -⟩ := hTp.2.2.2.2.2.2.2.1
  have la := hd_lt56 hTp.1 (by omega)
  have lb := hd_lt56 eb (by omega)
  have nx : ∀ a k t m, z_hd zQ A a = some (t, m) → (t = 8 ∨ t = 18) → ¬ X a k := fun a k t m ha ht hx => by
    have := hd_lt56 ha (by omega)
    rcases hX _ _ hx with (hx | hx) | hx
    · rw [hx, eb] at ha; cases ha; omega
    · rw [hx.1, hTp.1] at ha; cases ha; omega
    · omega
  have p2 : ∀ r, zP zQ A' 2 r = zP zQ A 2 r := fun r => zFr_P hf r (by omega) (fun hx => by
    rcases hX _ _ hx with (hx | hx) | hx <;> omega)
  have q4 : ∀ r, r < gR G → cRo A' (zP zQ A 2 r) (gZ G r) ∧ zP zQ A' (zP zQ A 2 r) 0 = zP zQ A (zP zQ A 2 r) 0 := fun r hr => cRo_fr hf (a4 r hr) (fun k => nx _ k 8 2 (a4 r hr).1 (by omega))
  have q7 : ∀ q, q < gN G → q ≠ p → cT A' (al q) (gT G q) ∧ zP zQ A' (al q) 4 = zP zQ A (al q) 4 := fun q hq hne => by
    have hT := a7 q hq
    obtain ⟨m, e2, -⟩ := hT.2.2.2.2.2.2.2.1
    have la' := hd_lt56 hT.1 (by omega)
    have lb' := hd_lt56 e2 (by omega)
    obtain ⟨n1, n2⟩ := a8 q p hq hp hne
    refine cT_fr hf hT (fun k hx => ?_) (fun k hx => ?_)
    · rcases hX _ _ hx with (hx | hx) | hx
      · have := hT.1; rw [hx, eb] at this; cases this
      · exact n1 hx.1
      · omega
    · rcases hX _ _ hx with (hx | hx) | hx
      · exact n2 hx
      · rw [hx.1, hTp.1] at e2; cases e2
      · omega
  refine ⟨?_, ?_, he, fun r hr => ?_, fun r s hr hs => ?_, fun r r' hr hr' hne => ?_, fun q hq => ?_, fun q q' hq hq' hne => ?_, sc_fr hf a9⟩
  · rw [zFr_I hf _ (by omega) (fun hx => by rcases hX _ _ hx with (hx | hx) | hx <;> omega)]; exact a1
  · rw [zFr_I hf _ (by omega) (fun hx => by rcases hX _ _ hx with (hx | hx) | hx <;> omega)]; exact a2
  · rw [p2]; exact (q4 r hr).1
  · rw [p2, (q4 r hr).2, zFr_P hf _ (z_hd_lt (a4 r hr).2.1) (nx _ _ 18 400 (a4 r hr).2.1 (by omega))]; exact a5 r s hr hs
  · rw [p2, p2, (q4 r hr).2, (q4 r' hr').2]; exact a6 r r' hr hr' hne
  · rw [gT_upd]
    by_cases g : q = p
    · rw [if_pos g, g]; exact hT
    · rw [if_neg g]; exact (q7 q hq g).1
  · have hlt : ∀ q, q < gN G → q ≠ p → zP zQ A (al q) 4 < z_new zQ A := fun q hq _ => by
      obtain ⟨m, e2, -⟩ := (a7 q hq).2.2.2.2.2.2.2.1
      exact z_hd_lt e2
    have h8 := a8 q q' hq hq' hne
    refine ⟨h8.1, ?_⟩
    by_cases g : q = p
    · subst g
      rw [(q7 q' hq' (fun e => hne e.symm)).2]
      rcases hb with hb | hb
      · rw [hb]; exact h8.2
      · have := hlt q' hq' (fun e => hne e.symm); omega
    · rw [(q7 q hq g).2]
      by_cases g' : q' = p
      · subst g'
        rcases hb with hb | hb
        · rw [hb]; exact h8.2
        · have := hlt q hq g; omega
      · rw [(q7 q' hq' g').2]; exact h8.2
def xcV (a b : Nat) : Nat → Nat → Prop := fun a' k => xS a b a' k ∨ (a' = 1 ∧ k = 6) ∨ a' = 14
theorem L_Pt (d : Nat) {T : zT} {a b : Nat} {n : Int32} (l1 l2 l5 : Int32) (w : wT T) (hK : tK T = 0) (h1 : -7 ≤ n.toInt) (h2 : n.toInt ≤ 7) (ha : 56 ≤ a) (hb : 56 ≤ b) : ∀ (m k : Nat) (F : zFl) (A : zM) (o : Option Value), k + m = tS T → cT A a (trT T n k) → zP zQ A a 4 = b → cF F A → wFl F → F.1 ≤ 7 * k → ∃ A', z_denF zQ (d + 4) mP_transpose (89, [some (.ref 1), some (.int l1), some (.int l2), some (.int n), some (.ref a), some (.int l5), some (.int (zn k)), o], [], A) = some (some (.int (zn (faF T n m k F).1)), z_wI A' 1 7 (zn 0)) ∧ cT A' a (sealT (trT T n (tS T))) ∧ zP zQ A' a 4 = b ∧ cF (faF T n m k F) A' ∧ zFr 0 0 (xcV a b) A A'
  | 0, k, F, A, o, hk, hT, hP, hF, hwF, hc => by
    have : k = tS T := by omega
    subst this
    have hS := w.2.2.2.2.1
    have wt := wT_tr w hK n (tS T)
    have e1 := E_S_elements (d + 2) a A _ hT (wT_w0 wt)
    have e1 : z_den zQ (d + 2 + 1) mS_elements [.ref a] A = some (some (.int (zn (tS T))), A) := e1
    obtain ⟨A', t1, t2, t3, t4⟩ := E_S_writeHead (d + 1) a A _ hT wt
    rw [hP] at t3 t4
    have i6 : zI A' 1 6 = zn F.1 := by rw [st_I t3 ha hb (by omega)]; exact hF.1
    refine ⟨A', ?_, t2, t4, ?_, zFr_mono t3 (Nat.le_refl _) (Nat.le_refl _) (fun _ _ h => Or.inl h)⟩
    · rw [L_P_transpose_89]
      simp (disch := omega) only [z_bV_some, z_bI_some, z_bJ_some, z_bD_some, z_bR_some, cond_true, cond_false, Bool.and_true, Bool.true_and, Bool.not_false, Bool.not_true, Bool.and_self, Bool.or_true, Bool.false_or, Bool.true_or, zn_ok, zn_ok0, zn_N, zn_add, zn_mul, zn_sub, z_lt_T, z_lt_F, z_le_T, z_le_F, z_eq_T, z_ne_F, z_eq_F, z_ne_T, z_ix_T, z_lt_m, z_le_m, z_lt_m2, z_le_m2, z_eq_m, z_ne_m, zn_div, z_a31, zn_shl, zn_shr, z_bq_T, z_bq_F, z_bl_T, nL_0, c9 hT.1, e1, t1, i6, B_P_done]
      rfl
    · exact cF_fr t3 hF (fun q => by rcases q with q | q <;> omega) (fun k q => by rcases q with q | q <;> omega)
  | m + 1, k, F, A, o, hk, hT, hP, hF, hwF, hc => by
    have hS := w.2.2.2.2.1
    have wt := wT_tr w hK n k
    have e1 := E_S_elements (d + 2) a A _ hT (wT_w0 wt)
    have e1 : z_den zQ (d + 2 + 1) mS_elements [.ref a] A = some (some (.int (zn (tS T))), A) := e1
    have e2 := E_S_elementAt (d + 1) a k A _ hT wt (by show k < tS T; omega)
    rw [tE_tr, if_neg (by omega)] at e2
    have h7 := ofR_7 h1 h2
    obtain ⟨A1, f1, f2, f3⟩ := L_Pfn (d + 2) (h := tE T k &&& zn 255) (n := n) (k := k) (by omega) h1 h2 8 0 F A none (by omega) hF (by omega)
    have fw := nf_w (h := tE T k &&& zn 255) (n := n) (k := k) (by omega) 8 0 F (by omega) hwF (by omega)
    have en : z_den zQ (d + 3) mP_noteFallen [.ref 1, .int (zn k), .int (tE T k &&& zn 255), .int n] A = some (none, A1) := by
      rw [B_P_noteFallen, nL_0]; exact f1
    obtain ⟨hT1, hP1⟩ := cT_fr f3 hT (fun _ q => by omega) (fun _ q => by rw [hP] at q; omega)
    rw [hP] at hP1
    obtain ⟨f, u1, u2⟩ := E_S_putElement (d + 1) a k (svF (tE T k &&& zn 255) n) A1 _ hT1 wt (by show k < tS T; omega)
    rw [tr_succ hK] at u2
    rw [hP1] at u1 u2
    have hF2 : cF (nfF (tE T k &&& zn 255) n k 8 0 F) (z_put A1 b (9 + k * tW (trT T n k)) (tW (trT T n k)) f) := cF_fr (zFr_put (X := fun a _ => a = b) (fun _ _ _ => rfl)) f2 (fun e => by omega) (fun k e => by omega)
    obtain ⟨A', i1, i2, i3, i4, i5⟩ := L_Pt d l1 l2 l5 w hK h1 h2 ha hb m (k + 1) _ _ (some (.int (tE T k &&& zn 255))) (by omega) u2 (by rw [zP_put]; exact hP1) hF2 fw.1 (by omega)
    refine ⟨A', ?_, i2, i3, i4, zFr_trans (zFr_trans (zFr_mono f3 (Nat.le_refl _) (Nat.le_refl _) (fun _ _ h => Or.inr h)) (zFr_put (X := xcV a b) (fun _ _ _ => Or.inl (Or.inl rfl))) (fun _ _ _ h => h)) i5 (fun _ _ _ h => h)⟩
    have i1 : z_denF zQ (d + 3 + 1) mP_transpose _ = _ := i1
    have t0 : (zn 0).toInt = 0 := zn_toInt (by omega)
    have ee : faF T n (m + 1) k F = faF T n m (k + 1) (nfF (tE T k &&& zn 255) n k 8 0 F) := rfl
    rw [L_P_transpose_89, ee]
    by_cases gn : n.toInt < 0
    · have z1 : z_le (zn 0) n = false := z_le_ff (by omega)
      have es : svF (tE T k &&& zn 255) n = (tE T k &&& zn 255) >>> (-n &&& zn 31) := by unfold svF; rw [if_pos gn]
      rw [es] at u1
      simp (disch := omega) only [z_bV_some, z_bI_some, z_bJ_some, z_bD_some, z_bR_some, cond_true, cond_false, Bool.and_true, Bool.true_and, Bool.not_false, Bool.not_true, Bool.and_self, Bool.or_true, Bool.false_or, Bool.true_or, zn_ok, zn_ok0, zn_N, zn_add, zn_mul, zn_sub, z_lt_T, z_lt_F, z_le_T, z_le_F, z_eq_T, z_ne_F, z_eq_F, z_ne_T, z_ix_T, z_lt_m, z_le_m, z_lt_m2, z_le_m2, z_eq_m, z_ne_m, zn_div, z_a31, zn_shl, zn_shr, z_bq_T, z_bq_F, z_bl_T, nL_0, nL_1, nL_31, nL_255, c9 hT.1, e1, e2, en, z1, c9 hT1.1, u1, i1]
    · have z1 : z_le (zn 0) n = true := z_le_tt (by omega)
      have es : svF (tE T k &&& zn 255) n = (tE T k &&& zn 255) <<< (n &&& zn 31) := by unfold svF; rw [if_neg gn]
      rw [es] at u1
      simp (disch := omega) only [z_bV_some, z_bI_some, z_bJ_some, z_bD_some, z_bR_some, cond_true, cond_false, Bool.and_true, Bool.true_and, Bool.not_false, Bool.not_true, Bool.and_self, Bool.or_true, Bool.false_or, Bool.true_or, zn_ok, zn_ok0, zn_N, zn_add, zn_mul, zn_sub, z_lt_T, z_lt_F, z_le_T, z_le_F, z_eq_T, z_ne_F, z_eq_F, z_ne_T, z_ix_T, z_lt_m, z_le_m, z_lt_m2, z_le_m2, z_eq_m, z_ne_m, zn_div, z_a31, zn_shl, zn_shr, z_bq_T, z_bq_F, z_bl_T, nL_0, nL_1, nL_31, nL_255, c9 hT.1, e1, e2, en, z1, c9 hT1.1, u1, i1]
theorem P_transpose (d : Nat) {pl : Bool} {G : zG} {F : zFl} {al : Nat → Nat} {A : zM} {x y n : Int32} (h : cG G al A) (w : wG G) (hF : cF F A) (hp : zI A 3 15 = bI pl) : cResF 0 0 A (oTransp pl G F x y n) (z_den zQ (d + 4) mP_transpose [.ref 1, .int x, .int y, .int n] A) := by
  unfold oTransp
  rw [B_P_transpose]
  have t7 : (zn 7).toInt = 7 := zn_toInt (by omega)
  have m7 : (-7 : Int32).toInt = -7 := rfl
  by_cases g : sOk G x y
  rotate_left
  · rw [pif_F (fun q => g q.1), E_P_stripAt_no _ h w g]
    simp (disch := omega) only [z_bV_some, z_bI_some, z_bJ_some, z_bD_some, z_bR_some, cond_true, cond_false, Bool.and_true, Bool.true_and, Bool.not_false, Bool.not_true, Bool.and_self, Bool.or_true, Bool.false_or, Bool.true_or, zn_ok, zn_ok0, zn_N, zn_add, zn_mul, zn_sub, z_lt_T, z_lt_F, z_le_T, z_le_F, z_eq_T, z_ne_F, z_eq_F, z_ne_T, z_ix_T, z_lt_m, z_le_m, z_lt_m2, z_le_m2, z_eq_m, z_ne_m, zn_div, z_a31, zn_shl, zn_shr, z_bq_T, z_bq_F, z_bl_T, B_P_refuse]
    exact cResF_st hF h _ _
  obtain ⟨p1, p2, p3, p4, m, p5, p6⟩ := cG_at h w g
  have n0 := hd_n0 p2.1 (by decide)
  rw [E_P_stripAt_ok _ h w g, z_bR_some, z_bq_F n0, cond_false]
  by_cases gn : -7 ≤ n.toInt ∧ n.toInt ≤ 7
  rotate_left
  · rw [pif_F (fun q => gn q.2)]
    by_cases g7 : n.toInt < -7
    · rw [z_lt_tt (by omega), cond_true, B_P_refuse, z_bI_some]
      exact cResF_st hF h _ _
    · rw [z_lt_ff (by omega), cond_false, nL_7, z_le_ff (by omega), cond_false, B_P_refuse, z_bI_some]
      exact cResF_st hF h _ _
  rw [pif_T ⟨g, gn⟩, z_lt_ff (by omega), cond_false, nL_7, z_le_tt (by omega), cond_true]
  by_cases g2 : pl = true
  · rw [if_pos g2]
    simp (disch := omega) only [z_bV_some, z_bI_some, z_bJ_some, z_bD_some, z_bR_some, cond_true, cond_false, Bool.and_true, Bool.true_and, Bool.not_false, Bool.not_true, Bool.and_self, Bool.or_true, Bool.false_or, Bool.true_or, zn_ok, zn_ok0, zn_N, zn_add, zn_mul, zn_sub, z_lt_T, z_lt_F, z_le_T, z_le_F, z_eq_T, z_ne_F, z_eq_F, z_ne_T, z_ix_T, z_lt_m, z_le_m, z_lt_m2, z_le_m2, z_eq_m, z_ne_m, zn_div, z_a31, zn_shl, zn_shr, z_bq_T, z_bq_F, z_bl_T, nL_0, hp, pl_T g2, B_P_refuse]
    exact cResF_st hF h _ _
  rw [if_neg g2]
  have b1 := p3.1
  by_cases g3 : tK (sA G x y) = 0
  rotate_left
  · rw [if_pos g3]
    simp (disch := omega) only [z_bV_some, z_bI_some, z_bJ_some, z_bD_some, z_bR_some, cond_true, cond_false, Bool.and_true, Bool.true_and, Bool.not_false, Bool.not_true, Bool.and_self, Bool.or_true, Bool.false_or, Bool.true_or, zn_ok, zn_ok0, zn_N, zn_add, zn_mul, zn_sub, z_lt_T, z_lt_F, z_le_T, z_le_F, z_eq_T, z_ne_F, z_eq_F, z_ne_T, z_ix_T, z_lt_m, z_le_m, z_lt_m2, z_le_m2, z_eq_m, z_ne_m, zn_div, z_a31, zn_shl, zn_shr, z_bq_T, z_bq_F, z_bl_T, nL_0, nL_5, hp, pl_F g2, c9 p2.1, p2.2.1, B_P_found]
    exact cResF_st hF h _ _
  rw [if_neg (fun q => q g3)]
  have k0 := p2.2.1
  rw [g3] at k0
  have e2 := E_S_verdict (d + 1) _ A _ p2 p3
  have hf := find_lt (sA G x y)
  by_cases g4 : findT (sA G x y) = 0
  rotate_left
  · rw [if_pos g4]
    simp (disch := omega) only [z_bV_some, z_bI_some, z_bJ_some, z_bD_some, z_bR_some, cond_true, cond_false, Bool.and_true, Bool.true_and, Bool.not_false, Bool.not_true, Bool.and_self, Bool.or_true, Bool.false_or, Bool.true_or, zn_ok, zn_ok0, zn_N, zn_add, zn_mul, zn_sub, z_lt_T, z_lt_F, z_le_T, z_le_F, z_eq_T, z_ne_F, z_eq_F, z_ne_T, z_ix_T, z_lt_m, z_le_m, z_lt_m2, z_le_m2, z_eq_m, z_ne_m, zn_div, z_a31, zn_shl, zn_shr, z_bq_T, z_bq_F, z_bl_T, nL_0, hp, pl_F g2, c9 p2.1, k0, e2, B_P_found]
    exact cResF_st hF h _ _
  rw [if_neg (fun q => q g4)]
  rw [g4] at e2
  have hF0 : cF zF0 (z_wI A 1 6 (zn 0)) := ⟨by rw [zI_wI_s]; rfl, fun k hk => absurd hk (Nat.not_lt_zero _)⟩
  have c0 := cT_w1 (t := 1) (k := 6) (v := zn 0) p2 p4 p6 (by omega)
  obtain ⟨A', i1, i2, i3, i4, i5⟩ := L_Pt d x y (zn 0) p3 g3 gn.1 gn.2 p4 p6 (tS (sA G x y)) 0 zF0 (z_wI A 1 6 (zn 0)) none (by omega) (by rw [tr_0]; exact c0) (by rw [zP_wI]) hF0 wFl_0 (Nat.zero_le _)
  have i1 : z_denF zQ (d + 3 + 1) mP_transpose _ = _ := i1
  simp (disch := omega) only [z_bV_some, z_bI_some, z_bJ_some, z_bD_some, z_bR_some, cond_true, cond_false, Bool.and_true, Bool.true_and, Bool.not_false, Bool.not_true, Bool.and_self, Bool.or_true, Bool.false_or, Bool.true_or, zn_ok, zn_ok0, zn_N, zn_add, zn_mul, zn_sub, z_lt_T, z_lt_F, z_le_T, z_le_F, z_eq_T, z_ne_F, z_eq_F, z_ne_T, z_ix_T, z_lt_m, z_le_m, z_lt_m2, z_le_m2, z_eq_m, z_ne_m, zn_div, z_a31, zn_shl, zn_shr, z_bq_T, z_bq_F, z_bl_T, nL_0, hp, pl_F g2, c9 p2.1, k0, e2, i1]
  have f1 : zFr 0 0 (xcV (al (pO G x y)) (zP zQ A (al (pO G x y)) 4)) A A' := zFr_trans (zFr_wI (Or.inr (Or.inl ⟨rfl, rfl⟩))) i5 (fun _ _ _ h => h)
  have g56 := z_new_ge A
  have i15 : zI A' 1 5 = zn (gE G) := by
    rw [zFr_I f1 _ (by omega) (fun q => by
      rcases q with (q | q) | q | q <;> omega)]; exact h.2.2.1
  have hG : cG (updT G (pO G x y) (sealT (trT (sA G x y) n (tS (sA G x y)))) (gE G)) al A' := by
    refine cG_updX h p1 (X := xcV (al (pO G x y)) (zP zQ A (al (pO G x y)) 4)) (fun a' k q => ?_) f1 i2 (Or.inl i3) i15
    rcases q with q | q | q
    · exact Or.inl q
    · exact Or.inr (by omega)
    · exact Or.inr (by omega)
  have f2 : zFr 0 0 (fun a k => a = 1 ∧ k = 7) A' (z_wI A' 1 7 (zn 0)) := zFr_wI ⟨rfl, rfl⟩
  refine ⟨_, al, rfl, cG_fr f2 hG (by omega) (fun k q => by omega) (fun a k t n ha ht q => by have := hd_lt56 ha ht; omega), cF_fr f2 i4 (by omega) (fun k q => by omega), zI_wI_s _ _ _ _, ?_⟩
  refine zFr_trans (zFr_mono f1 (Nat.le_refl _) (Nat.le_refl _) (fun a k q => ?_)) f2 (fun a k _ q => Or.inl (by rw [q.1, q.2]; exact xcS_st A))
  rcases q with q | q
  · exact Or.inl (xcU_xcS p2.1 p5 a k (Or.inl q))
  · exact Or.inr q
theorem L_Qfn (d : Nat) (l1 l2 l5 : Int32) {h n : Int32} {p k : Nat} (hp : p < 400) (hk : k < 256) (h1 : -7 ≤ n.toInt) (h2 : n.toInt ≤ 7) : ∀ (m t : Nat) (F : zFl) (B : zM), t + m = 8 → rF F B → F.1 + ofR n m t ≤ 1792 → ∃ B', z_denF zQ (d + 2) mQ_transpose (127, [some (.ref 15), some (.int l1), some (.int l2), some (.int n), some (.int (zn p)), some (.int l5), some (.int (zn k)), some (.int h), some (.int (zn t))], [], B) = z_denF zQ (d + 2) mQ_transpose (92, [some (.ref 15), some (.int l1), some (.int l2), some (.int n), some (.int (zn p)), some (.int l5), some (.int (zn (k + 1))), some (.int h), some (.int (zn 8))], [], z_wI B' 25 (256 * p + k) (ebF (svF h n) 0)) ∧ rF (nfF h n k m t F) B' ∧ zFr 0 0 (fun a k => (a = 15 ∧ k = 65) ∨ a = 54 ∨ a = 55) B B'
  | 0, t, F, B, ht, hc, hl => by
    refine ⟨B, ?_, hc, zFr_refl _ _⟩
    have : t = 8 := by omega
    subst this
    have t0 : (zn 0).toInt = 0 := zn_toInt (by omega)
    rw [L_Q_transpose_127]
    by_cases gn : n.toInt < 0
    · have z1 : z_lt n (zn 0) = true := z_lt_tt (by omega)
      have es : svF h n = h >>> (-n &&& zn 31) := by unfold svF; rw [if_pos gn]
      rw [es]
      simp (disch := omega) only [z_bV_some, z_bI_some, z_bJ_some, z_bD_some, z_bR_some, cond_true, cond_false, Bool.and_true, Bool.true_and, Bool.not_false, Bool.not_true, Bool.and_self, Bool.or_true, Bool.false_or, Bool.true_or, zn_ok, zn_ok0, zn_N, zn_add, zn_mul, zn_sub, z_lt_T, z_lt_F, z_le_T, z_le_F, z_eq_T, z_ne_F, z_eq_F, z_ne_T, z_ix_T, z_lt_m, z_le_m, z_lt_m2, z_le_m2, z_eq_m, z_ne_m, zn_div, z_a31, zn_shl, zn_shr, z_bq_T, z_bq_F, z_bl_T, nL_8, nL_0, nL_1, nL_31, nL_256, z1, eb_zero]
    · have z1 : z_lt n (zn 0) = false := z_lt_ff (by omega)
      have es : svF h n = h <<< (n &&& zn 31) := by unfold svF; rw [if_neg gn]
      rw [es]
      simp (disch := omega) only [z_bV_some, z_bI_some, z_bJ_some, z_bD_some, z_bR_some, cond_true, cond_false, Bool.and_true, Bool.true_and, Bool.not_false, Bool.not_true, Bool.and_self, Bool.or_true, Bool.false_or, Bool.true_or, zn_ok, zn_ok0, zn_N, zn_add, zn_mul, zn_sub, z_lt_T, z_lt_F, z_le_T, z_le_F, z_eq_T, z_ne_F, z_eq_F, z_ne_T, z_ix_T, z_lt_m, z_le_m, z_lt_m2, z_le_m2, z_eq_m, z_ne_m, zn_div, z_a31, zn_shl, zn_shr, z_bq_T, z_bq_F, z_bl_T, nL_8, nL_0, nL_1, nL_31, nL_256, z1, eb_zero]
  | m + 1, t, F, B, ht, hc, hl => by
    have e : nfF h n k (m + 1) t F = nfF h n k m (t + 1) (pif (ofP n t ∧ btP h t) (puF F k t) F) := rfl
    have e2 : ofR n (m + 1) t = pif (ofP n t) 1 0 + ofR n m (t + 1) := rfl
    rw [e]
    rw [e2] at hl
    have tt : (zn t + n).toInt = t + n.toInt := by
      have := zn_toInt (n := t) (by omega)
      rw [tI_add (by omega) (by omega), this]
    by_cases g2 : btP h t
    · have hb : z_ne ((h >>> zn t) &&& zn 1) (zn 1) = false := by rw [show (h >>> zn t) &&& zn 1 = zn 1 from g2]; exact z_ne_F _
      by_cases g : ofP n t
      · rw [pif_T g] at hl
        rw [pif_T ⟨g, g2⟩]
        have ew := Q_within_F (d := d) (x := zn t + n) (a := 0) (n := 7) (M := B) (by omega) (by omega) (by rw [tt]; unfold ofP at g; omega)
        obtain ⟨B', i1, i2, i3⟩ := L_Qfn d l1 l2 l5 (h := h) hp hk h1 h2 m (t + 1) (puF F k t) _ (by omega) (rF_pu hc k t) (by show F.1 + 1 + ofR n m (t + 1) ≤ 1792; omega)
        refine ⟨B', ?_, i2, zFr_trans (zFr_trans (zFr_trans (zFr_wI (X := fun a k => (a = 15 ∧ k = 65) ∨ a = 54 ∨ a = 55) (Or.inr (Or.inl rfl))) (zFr_wI (X := fun a k => (a = 15 ∧ k = 65) ∨ a = 54 ∨ a = 55) (Or.inr (Or.inr rfl))) (fun _ _ _ h => h)) (zFr_wI (X := fun a k => (a = 15 ∧ k = 65) ∨ a = 54 ∨ a = 55) (Or.inl ⟨rfl, rfl⟩)) (fun _ _ _ h => h)) i3 (fun _ _ _ h => h)⟩
        have i1 : z_denF zQ (d + 1 + 1) mQ_transpose _ = _ := i1
        rw [L_Q_transpose_127]
        simp (disch := omega) only [z_bV_some, z_bI_some, z_bJ_some, z_bD_some, z_bR_some, cond_true, cond_false, Bool.and_true, Bool.true_and, Bool.not_false, Bool.not_true, Bool.and_self, Bool.or_true, Bool.false_or, Bool.true_or, zn_ok, zn_ok0, zn_N, zn_add, zn_mul, zn_sub, z_lt_T, z_lt_F, z_le_T, z_le_F, z_eq_T, z_ne_F, z_eq_F, z_ne_T, z_ix_T, z_lt_m, z_le_m, z_lt_m2, z_le_m2, z_eq_m, z_ne_m, zn_div, z_a31, zn_shl, zn_shr, z_bq_T, z_bq_F, z_bl_T, nL_8, nL_0, nL_1, nL_7, nL_31, hb, ew, hc.1, i1]
      · rw [pif_F g] at hl
        rw [pif_F (fun q => g q.1)]
        have ew := Q_within_T (d := d) (x := zn t + n) (a := 0) (n := 7) (M := B) (by omega) (by omega) (by rw [tt]; unfold ofP at g; omega)
        obtain ⟨B', i1, i2, i3⟩ := L_Qfn d l1 l2 l5 (h := h) hp hk h1 h2 m (t + 1) F B (by omega) hc (by omega)
        refine ⟨B', ?_, i2, i3⟩
        have i1 : z_denF zQ (d + 1 + 1) mQ_transpose _ = _ := i1
        rw [L_Q_transpose_127]
        simp (disch := omega) only [z_bV_some, z_bI_some, z_bJ_some, z_bD_some, z_bR_some, cond_true, cond_false, Bool.and_true, Bool.true_and, Bool.not_false, Bool.not_true, Bool.and_self, Bool.or_true, Bool.false_or, Bool.true_or, zn_ok, zn_ok0, zn_N, zn_add, zn_mul, zn_sub, z_lt_T, z_lt_F, z_le_T, z_le_F, z_eq_T, z_ne_F, z_eq_F, z_ne_T, z_ix_T, z_lt_m, z_le_m, z_lt_m2, z_le_m2, z_eq_m, z_ne_m, zn_div, z_a31, zn_shl, zn_shr, z_bq_T, z_bq_F, z_bl_T, nL_8, nL_0, nL_1, nL_7, nL_31, hb, ew, i1]
    · have hb : z_ne ((h >>> zn t) &&& zn 1) (zn 1) = true := z_ne_N g2
      rw [pif_F (fun q => g2 q.2)]
      obtain ⟨B', i1, i2, i3⟩ := L_Qfn d l1 l2 l5 (h := h) hp hk h1 h2 m (t + 1) F B (by omega) hc (by
        by_cases g : ofP n t
        · rw [pif_T g] at hl; omega
        · rw [pif_F g] at hl; omega)
      refine ⟨B', ?_, i2, i3⟩
      have i1 : z_denF zQ (d + 1 + 1) mQ_transpose _ = _ := i1
      rw [L_Q_transpose_127]
      simp (disch := omega) only [z_bV_some, z_bI_some, z_bJ_some, z_bD_some, z_bR_some, cond_true, cond_false, Bool.and_true, Bool.true_and, Bool.not_false, Bool.not_true, Bool.and_self, Bool.or_true, Bool.false_or, Bool.true_or, zn_ok, zn_ok0, zn_N, zn_add, zn_mul, zn_sub, z_lt_T, z_lt_F, z_le_T, z_le_F, z_eq_T, z_ne_F, z_eq_F, z_ne_T, z_ix_T, z_lt_m, z_le_m, z_lt_m2, z_le_m2, z_eq_m, z_ne_m, zn_div, z_a31, zn_shl, zn_shr, z_bq_T, z_bq_F, z_bl_T, nL_8, nL_0, nL_1, nL_7, nL_31, hb, i1]
def xrV (p : Nat) : Nat → Nat → Prop := fun a k => inR p a k ∨ (a = 15 ∧ k = 65) ∨ a = 54 ∨ a = 55
theorem L_Qt (d : Nat) (l1 l2 l5 : Int32) {T : zT} {p : Nat} {n : Int32} (hp : p < 400) (w : wT T) (hl : tL T = false) (hK : tK T = 0) (h1 : -7 ≤ n.toInt) (h2 : n.toInt ≤ 7) : ∀ (m k : Nat) (F : zFl) (B : zM) (o7 o8 : Option Value), k + m = tS T → rT B p (trT T n k) → rF F B → wFl F → F.1 ≤ 7 * k → ∃ B', z_denF zQ (d + 5) mQ_transpose (92, [some (.ref 15), some (.int l1), some (.int l2), some (.int n), some (.int (zn p)), some (.int l5), some (.int (zn k)), o7, o8], [], B) = some (some (.int (zn (faF T n m k F).1)), z_wI B' 15 0 (zn 0)) ∧ rT B' p (sealT (trT T n (tS T))) ∧ rF (faF T n m k F) B' ∧ zFr 0 0 (xrV p) B B'
  | 0, k, F, B, o7, o8, hk, hT, hF, hwF, hc => by
    have : k = tS T := by omega
    subst this
    have hS := w.2.2.2.2.1
    obtain ⟨B', t1, t2, t3⟩ := E_Q_sealIt d p B _ hp hT (wT_set9 (wT_tr w hK n (tS T)) hl) hl
    have g56 := z_new_ge B
    have i65 : zI B' 15 65 = zn F.1 := by rw [zFr_I t3 _ (by omega) (by unfold inR; omega)]; exact hF.1
    have k5 : zI B 24 p = zn (tS T) := hT.2.2.2.2.2.1
    refine ⟨B', ?_, t2, rF_fr t3 hF (by unfold inR; omega) (fun k => by unfold inR; omega), zFr_mono t3 (Nat.le_refl _) (Nat.le_refl _) (fun _ _ h => Or.inl h)⟩
    rw [L_Q_transpose_92]
    simp (disch := omega) only [z_bV_some, z_bI_some, z_bJ_some, z_bD_some, z_bR_some, cond_true, cond_false, Bool.and_true, Bool.true_and, Bool.not_false, Bool.not_true, Bool.and_self, Bool.or_true, Bool.false_or, Bool.true_or, zn_ok, zn_ok0, zn_N, zn_add, zn_mul, zn_sub, z_lt_T, z_lt_F, z_le_T, z_le_F, z_eq_T, z_ne_F, z_eq_F, z_ne_T, z_ix_T, z_lt_m, z_le_m, z_lt_m2, z_le_m2, z_eq_m, z_ne_m, zn_div, z_a31, zn_shl, zn_shr, z_bq_T, z_bq_F, z_bl_T, nL_0, k5, t1, i65, B_Q_well]
    rfl
  | m + 1, k, F, B, o7, o8, hk, hT, hF, hwF, hc => by
    have hS := w.2.2.2.2.1
    have h7 := ofR_7 h1 h2
    have k5 : zI B 24 p = zn (tS T) := hT.2.2.2.2.2.1
    have k7 := hT.2.2.2.2.2.2.2 k (by omega)
    rw [tE_tr, if_neg (by omega)] at k7
    obtain ⟨B1, f1, f2, f3⟩ := L_Qfn (d + 3) l1 l2 l5 (h := tE T k &&& zn 255) (n := n) (p := p) (k := k) hp (by omega) h1 h2 8 0 F B (by omega) hF (by omega)
    have fw := nf_w (h := tE T k &&& zn 255) (n := n) (k := k) (by omega) 8 0 F (by omega) hwF (by omega)
    have hT1 := rT_fr f3 hT (fun a k h1 h2 => by unfold inR at h1; omega)
    have hT2 := rT_E (k := k) (v := ebF (svF (tE T k &&& zn 255) n) 0) hT1 (by omega)
    have eT : setE (trT T n k) k (ebF (svF (tE T k &&& zn 255) n) 0) = trT T n (k + 1) := by
      rw [← tr_succ hK]
      congr 1
      show _ = loF (tK T) _
      rw [hK]; unfold loF; rw [if_pos rfl]
    rw [eT] at hT2
    have hF2 := rF_fr (zFr_wI (X := fun a _ => a = 25) (A := B1) (k := 256 * p + k) (v := ebF (svF (tE T k &&& zn 255) n) 0) rfl) f2 (by omega) (fun k => by omega)
    obtain ⟨B', i1, i2, i3, i4⟩ := L_Qt d l1 l2 l5 hp w hl hK h1 h2 m (k + 1) _ _ (some (.int (tE T k &&& zn 255))) (some (.int (zn 8))) (by omega) hT2 hF2 fw.1 (by omega)
    refine ⟨B', ?_, i2, i3, zFr_trans (zFr_trans (zFr_mono f3 (Nat.le_refl _) (Nat.le_refl _) (fun _ _ h => Or.inr h)) (zFr_wI (X := xrV p) (Or.inl (by unfold inR; omega))) (fun _ _ _ h => h)) i4 (fun _ _ _ h => h)⟩
    have f1 : z_denF zQ (d + 4 + 1) mQ_transpose _ = z_denF zQ (d + 4 + 1) mQ_transpose _ := f1
    have i1 : z_denF zQ (d + 4 + 1) mQ_transpose _ = _ := i1
    have ee : faF T n (m + 1) k F = faF T n m (k + 1) (nfF (tE T k &&& zn 255) n k 8 0 F) := rfl
    rw [L_Q_transpose_92, ee]
    simp (disch := omega) only [z_bV_some, z_bI_some, z_bJ_some, z_bD_some, z_bR_some, cond_true, cond_false, Bool.and_true, Bool.true_and, Bool.not_false, Bool.not_true, Bool.and_self, Bool.or_true, Bool.false_or, Bool.true_or, zn_ok, zn_ok0, zn_N, zn_add, zn_mul, zn_sub, z_lt_T, z_lt_F, z_le_T, z_le_F, z_eq_T, z_ne_F, z_eq_F, z_ne_T, z_ix_T, z_lt_m, z_le_m, z_lt_m2, z_le_m2, z_eq_m, z_ne_m, zn_div, z_a31, zn_shl, zn_shr, z_bq_T, z_bq_F, z_bl_T, nL_0, nL_255, nL_256, k5, k7]
    rw [f1]
    exact i1
theorem find_l {T : zT} (h : findT T = 0) : tL T = false := by
  by_cases g : tL T = true
  · unfold findT at h; rw [if_pos g] at h; omega
  · exact tL_f g
theorem Q_transpose (d : Nat) {pl : Bool} {G : zG} {F : zFl} {B : zM} {x y n : Int32} (h : rG G B) (w : wG G) (hF : rF F B) (hp : zI B 15 36 = bI pl) : rResF B (oTransp pl G F x y n) (z_den zQ (d + 5) mQ_transpose [.ref 15, .int x, .int y, .int n] B) := by
  unfold oTransp
  rw [B_Q_transpose]
  have t7 : (zn 7).toInt = 7 := zn_toInt (by omega)
  have m7 : (-zn 7 : Int32).toInt = -7 := by rw [← nL_7]; rfl
  by_cases g : sOk G x y
  rotate_left
  · rw [pif_F (fun q => g q.1), E_Q_isStrip_no (d + 1) h w g]
    simp (disch := omega) only [z_bV_some, z_bI_some, z_bJ_some, z_bD_some, z_bR_some, cond_true, cond_false, Bool.and_true, Bool.true_and, Bool.not_false, Bool.not_true, Bool.and_self, Bool.or_true, Bool.false_or, Bool.true_or, zn_ok, zn_ok0, zn_N, zn_add, zn_mul, zn_sub, z_lt_T, z_lt_F, z_le_T, z_le_F, z_eq_T, z_ne_F, z_eq_F, z_ne_T, z_ix_T, z_lt_m, z_le_m, z_lt_m2, z_le_m2, z_eq_m, z_ne_m, zn_div, z_a31, zn_shl, zn_shr, z_bq_T, z_bq_F, z_bl_T, nL_0, B_Q_no]
    exact rResF_st hF h _ _
  obtain ⟨p1, p2, p3, p4⟩ := rG_at h w g
  rw [E_Q_isStrip_ok (d + 1) h w g, z_bI_some, nL_0, z_eq_F (by omega) (by omega) (by omega), cond_false, nL_7, E_Q_within]
  by_cases gn : -7 ≤ n.toInt ∧ n.toInt ≤ 7
  rotate_left
  · rw [pif_F (fun q => gn q.2), bI_0 (by rw [decide_eq_true_iff]; omega), z_bI_some, z_ne_F, cond_false, B_Q_no, z_bI_some]
    exact rResF_st hF h _ _
  rw [pif_T ⟨g, gn⟩, bI_1 (by rw [decide_eq_true_iff]; omega), z_bI_some, z_ne_T (by omega) (by omega) (by omega), cond_true]
  by_cases g2 : pl = true
  · rw [if_pos g2]
    simp (disch := omega) only [z_bV_some, z_bI_some, z_bJ_some, z_bD_some, z_bR_some, cond_true, cond_false, Bool.and_true, Bool.true_and, Bool.not_false, Bool.not_true, Bool.and_self, Bool.or_true, Bool.false_or, Bool.true_or, zn_ok, zn_ok0, zn_N, zn_add, zn_mul, zn_sub, z_lt_T, z_lt_F, z_le_T, z_le_F, z_eq_T, z_ne_F, z_eq_F, z_ne_T, z_ix_T, z_lt_m, z_le_m, z_lt_m2, z_le_m2, z_eq_m, z_ne_m, zn_div, z_a31, zn_shl, zn_shr, z_bq_T, z_bq_F, z_bl_T, nL_0, hp, pl_T g2, B_Q_no]
    exact rResF_st hF h _ _
  rw [if_neg g2]
  have b1 := p4.1
  have e1 := E_Q_poolOf (d + 3) h w g
  by_cases g3 : tK (sA G x y) = 0
  rotate_left
  · rw [if_pos g3]
    simp (disch := omega) only [z_bV_some, z_bI_some, z_bJ_some, z_bD_some, z_bR_some, cond_true, cond_false, Bool.and_true, Bool.true_and, Bool.not_false, Bool.not_true, Bool.and_self, Bool.or_true, Bool.false_or, Bool.true_or, zn_ok, zn_ok0, zn_N, zn_add, zn_mul, zn_sub, z_lt_T, z_lt_F, z_le_T, z_le_F, z_eq_T, z_ne_F, z_eq_F, z_ne_T, z_ix_T, z_lt_m, z_le_m, z_lt_m2, z_le_m2, z_eq_m, z_ne_m, zn_div, z_a31, zn_shl, zn_shr, z_bq_T, z_bq_F, z_bl_T, nL_0, nL_5, hp, pl_F g2, e1, p3.1, B_Q_finds]
    exact rResF_st hF h _ _
  rw [if_neg (fun q => q g3)]
  have k0 := p3.1
  rw [g3] at k0
  have e2 := E_Q_findingOf d _ _ _ p2 p3 p4
  have hf := find_lt (sA G x y)
  by_cases g4 : findT (sA G x y) = 0
  rotate_left
  · rw [if_pos g4]
    simp (disch := omega) only [z_bV_some, z_bI_some, z_bJ_some, z_bD_some, z_bR_some, cond_true, cond_false, Bool.and_true, Bool.true_and, Bool.not_false, Bool.not_true, Bool.and_self, Bool.or_true, Bool.false_or, Bool.true_or, zn_ok, zn_ok0, zn_N, zn_add, zn_mul, zn_sub, z_lt_T, z_lt_F, z_le_T, z_le_F, z_eq_T, z_ne_F, z_eq_F, z_ne_T, z_ix_T, z_lt_m, z_le_m, z_lt_m2, z_le_m2, z_eq_m, z_ne_m, zn_div, z_a31, zn_shl, zn_shr, z_bq_T, z_bq_F, z_bl_T, nL_0, hp, pl_F g2, e1, k0, e2, B_Q_finds]
    exact rResF_st hF h _ _
  rw [if_neg (fun q => q g4)]
  rw [g4] at e2
  have hF0 : rF zF0 (z_wI B 15 65 (zn 0)) := ⟨by rw [zI_wI_s]; rfl, fun k hk => absurd hk (Nat.not_lt_zero _)⟩
  have c0 := rT_wI (a := 15) (k := 65) (v := zn 0) p3 (by unfold inR; omega)
  obtain ⟨B', i1, i2, i3, i4⟩ := L_Qt d x y (zn 0) p2 p4 (find_l g4) g3 gn.1 gn.2 (tS (sA G x y)) 0 zF0 (z_wI B 15 65 (zn 0)) none none (by omega) (by rw [tr_0]; exact c0) hF0 wFl_0 (Nat.zero_le _)
  have i1 : z_denF zQ (d + 4 + 1) mQ_transpose _ = _ := i1
  simp (disch := omega) only [z_bV_some, z_bI_some, z_bJ_some, z_bD_some, z_bR_some, cond_true, cond_false, Bool.and_true, Bool.true_and, Bool.not_false, Bool.not_true, Bool.and_self, Bool.or_true, Bool.false_or, Bool.true_or, zn_ok, zn_ok0, zn_N, zn_add, zn_mul, zn_sub, z_lt_T, z_lt_F, z_le_T, z_le_F, z_eq_T, z_ne_F, z_eq_F, z_ne_T, z_ix_T, z_lt_m, z_le_m, z_lt_m2, z_le_m2, z_eq_m, z_ne_m, zn_div, z_a31, zn_shl, zn_shr, z_bq_T, z_bq_F, z_bl_T, nL_0, hp, pl_F g2, e1, k0, e2, i1]
  have f1 : zFr 0 0 (xrV (pO G x y)) B B' := zFr_trans (zFr_wI (Or.inr (Or.inl ⟨rfl, rfl⟩))) i4 (fun _ _ _ h => h)
  have g56 := z_new_ge B
  have o : ∀ a k, a < 56 → ¬ xrV (pO G x y) a k → zI B' a k = zI B a k := fun a k ha hx => zFr_I f1 k (by omega) hx
  have hG : rG (updT G (pO G x y) (sealT (trT (sA G x y) n (tS (sA G x y)))) (gE G)) B' := by
    obtain ⟨a1, a2, a3, a4, a5, a6, a7, a8⟩ := h
    have ot : ∀ q T, q ≠ pO G x y → rT B q T → rT B' q T := fun q T hne hq => rT_fr f1 hq (fun a k h1 h2 => by
      rcases h2 with h2 | h2
      · exact hne (inR_ne h1 h2)
      · unfold inR at h1; omega)
    refine ⟨?_, ?_, ?_, fun r hr => ?_, fun r hr hr2 => ?_, fun r s hr hs => ?_, fun q hq => ?_, fun q hq hq2 => ?_⟩
    · rw [o _ _ (by omega) (by unfold xrV inR; omega)]; exact a1
    · rw [o _ _ (by omega) (by unfold xrV inR; omega)]; exact a2
    · rw [o _ _ (by omega) (by unfold xrV inR; omega)]; exact a3
    · rw [o _ _ (by omega) (by unfold xrV inR; omega)]; exact a4 r hr
    · rw [o _ _ (by omega) (by unfold xrV inR; omega)]; exact a5 r hr hr2
    · rw [o _ _ (by omega) (by unfold xrV inR; omega)]; exact a6 r s hr hs
    · rw [gT_upd]
      by_cases e : q = pO G x y
      · rw [if_pos e, e]; exact i2
      · rw [if_neg e]; exact ot _ _ e (a7 q hq)
    · exact ot _ _ (by have : gN (updT G (pO G x y) (sealT (trT (sA G x y) n (tS (sA G x y)))) (gE G)) = gN G := rfl; omega) (a8 q hq hq2)
  have f2 : zFr 0 0 (fun a k => a = 15 ∧ k = 0) B' (z_wI B' 15 0 (zn 0)) := zFr_wI ⟨rfl, rfl⟩
  refine ⟨_, rfl, rG_fr f2 hG (by omega) (fun a k h1 h2 h3 => by omega), rF_fr f2 i3 (by omega) (fun k => by omega), zI_wI_s _ _ _ _, ?_⟩
  refine zFr_trans (zFr_mono f1 (Nat.le_refl _) (Nat.le_refl _) (fun a k q => ?_)) f2 (fun a k _ q => Or.inl (Or.inl ⟨q.1, by omega⟩))
  unfold xrV inR at q
  unfold xrF xrS
  omega
theorem wG_transp {pl : Bool} {G : zG} {F : zFl} {x y n : Int32} (w : wG G) (wf : wFl F) : wG (oTransp pl G F x y n).2.2.1 ∧ wFl (oTransp pl G F x y n).2.2.2 := by
  unfold oTransp
  by_cases g : sOk G x y ∧ (-7 ≤ n.toInt ∧ n.toInt ≤ 7)
  · rw [pif_T g]
    split
    · exact ⟨w, wf⟩
    · split
      · exact ⟨w, wf⟩
      · next g3 =>
        split
        · exact ⟨w, wf⟩
        · next g4 =>
          have g3 : tK (sA G x y) = 0 := Decidable.of_not_not g3
          have g4 : findT (sA G x y) = 0 := Decidable.of_not_not g4
          have hp := sOk_p w g.1
          have wt := w.2.2.2.2.1 _ hp
          have hl : tL (sA G x y) = false := find_l g4
          have wt : wT (sA G x y) := wt
          have ws : wT (sealT (trT (sA G x y) n (tS (sA G x y)))) := wT_seal (wT_tr wt g3 n _) hl
          exact ⟨wG_upd w hp ws rfl w.2.2.2.2.2.2, fa_w (S := tS (sA G x y)) wt.2.2.2.2.1 g.2.1 g.2.2 _ _ _ (Nat.zero_add _) wFl_0 (Nat.zero_le _)⟩
  · rw [pif_F g]; exact ⟨w, wf⟩
