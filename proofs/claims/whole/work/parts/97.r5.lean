/-! S LEVEL, PLAYING: what is kept, the class. -/
theorem m32 (x : Int32) : x.toBitVec.msb = decide (x.toInt < 0) := BitVec.msb_eq_toInt
theorem xor_n {p q : Int32} (hp : 0 ≤ p.toInt) (hq : 0 ≤ q.toInt) : 0 ≤ (p ^^^ q).toInt := by
  have e : (p ^^^ q).toBitVec.msb = false := by
    rw [Int32.toBitVec_xor, BitVec.msb_xor, m32 q, m32 p, decide_eq_false (by omega), decide_eq_false (by omega)]; rfl
  rw [m32] at e
  have := of_decide_eq_false e
  omega
theorem xor_m {p q : Int32} (hp : p.toInt < 0) (hq : 0 ≤ q.toInt) : (p ^^^ q).toInt < 0 := by
  have e : (p ^^^ q).toBitVec.msb = true := by
    rw [Int32.toBitVec_xor, BitVec.msb_xor, m32 q, m32 p, decide_eq_false (p := q.toInt < 0) (by omega), decide_eq_true (p := p.toInt < 0) (by omega)]; rfl
  rw [m32] at e
  exact of_decide_eq_true e
theorem t501 : (501 : Int32).toInt = 501 := rfl
theorem E_fm (d : Nat) {a : Nat} (M : zM) (ha : a < 2147483648) : z_den zQ (d + 1) mJm_floorMod [.int (zn a), .int 501] M = some (some (.int (zn (a % 501))), M) := by
  have h1 := Nat.div_mul_le_self a 501
  have h2 := Nat.div_add_mod a 501
  rw [B_Jm_floorMod, show z_ne (501 : Int32) 0 = true by rw [z_ne_eq]; rfl, cond_true, show z_le (0 : Int32) (zn a ^^^ 501) = true by rw [z_le_iff, toI_0]; exact decide_eq_true (xor_n (by rw [zn_toInt ha]; omega) (by rw [t501]; omega)), cond_true, nL_501, zn_div ha (by omega), zn_mul, zn_sub h1, show a - a / 501 * 501 = a % 501 by omega]
theorem E_fm' (d : Nat) {a b : Nat} (M : zM) (h : b ≤ a) (ha : a < 2147483648) : z_den zQ (d + 1) mJm_floorMod [.int (zn a - zn b), .int 501] M = some (some (.int (zn ((a - b) % 501))), M) := by
  rw [zn_sub h]; exact E_fm d M (by omega)
theorem E_fmN (d : Nat) {x : Int32} (M : zM) (h1 : x.toInt < 0) (h2 : -500 ≤ x.toInt) : ∃ m, m < 501 ∧ z_den zQ (d + 1) mJm_floorMod [.int x, .int 501] M = some (some (.int (zn m)), M) := by
  have hd : x / 501 = 0 := by
    apply Int32.toInt_inj.mp
    rw [Int32.toInt_div_of_ne_left, t501, toI_0]
    · have e : x.toInt.tdiv 501 = -((-x.toInt).tdiv 501) := by rw [Int.neg_tdiv, Int.neg_neg]
      rw [e, Int.tdiv_eq_ediv_of_nonneg (by omega)]
      omega
    · intro e
      rw [e] at h2
      exact absurd h2 (by decide)
  have e0 : x - x / 501 * 501 = x := by rw [hd, Int32.zero_mul, Int32.sub_zero]
  refine ⟨(x + 501).toNatClampNeg, ?_, ?_⟩
  · have e : (x + 501).toInt = x.toInt + 501 := by rw [tI_add] <;> rw [t501] <;> omega
    obtain ⟨n, hn, en⟩ := zn_ex (show 0 ≤ (x + 501).toInt by omega)
    rw [en, zn_toInt hn] at e
    rw [en, zn_N hn]; omega
  · have e : (x + 501).toInt = x.toInt + 501 := by rw [tI_add] <;> rw [t501] <;> omega
    rw [B_Jm_floorMod, show z_ne (501 : Int32) 0 = true by rw [z_ne_eq]; rfl, cond_true, show z_le (0 : Int32) (x ^^^ 501) = false by rw [z_le_iff, toI_0]; exact decide_eq_false (by have := xor_m h1 (q := 501) (by rw [t501]; omega); omega), cond_false, e0, show z_eq x 0 = false by rw [z_eq_eq]; exact decide_eq_false (fun q => by rw [q, toI_0] at h1; omega), cond_false, zn_of (by omega)]
abbrev yHs := Nat → (Nat → Int32) × yL
def cKp (K : Nat) (A : zM) : Prop := K ≤ 501 ∧ (∀ s, s < K → 57 ≤ zP zQ A 12 s ∧ z_hd zQ A (zP zQ A 12 s) = some (14, 523)) ∧ (∀ s, K ≤ s → s < 501 → zP zQ A 12 s = 0) ∧ ∀ s s', s < K → s' < K → s ≠ s' → zP zQ A 12 s ≠ zP zQ A 12 s'
def cHi (hi : yHs) (lo n K : Nat) (A : zM) : Prop := ∀ t, lo ≤ t → t < n → t % 501 < K ∧ cY (hi t).1 (hi t).2 (fun j => zI A (zP zQ A 12 (t % 501)) j)
def xcK (A : zM) (a k : Nat) : Prop := a = 12 ∨ (a = 3 ∧ k = 13) ∨ (57 ≤ a ∧ z_hd zQ A a = some (14, 523))
def keK (K go : Nat) : Nat := if go % 501 < K then K else K + 1
def upH (hi : yHs) (go : Nat) (X : (Nat → Int32) × yL) : yHs := fun t => if t = go then X else hi t
theorem ia_of {M : zM} {a t n : Nat} (h : z_hd zQ M a = some (t, n)) (i : Int32) : z_ia zQ M a t i = z_ix i n := by
  unfold z_ia
  rw [h]
  show (bif Nat.beq t t then z_ix i n else false) = z_ix i n
  rw [Nat.beq_refl]; rfl
theorem c_used (d : Nat) {M : zM} {a m : Nat} (h : z_hd zQ M a = some (14, 523)) (h14 : zI M a 14 = zn m) (hm : m ≤ 320) : z_den zQ (d + 2) mO_usedOf [.ref a] M = some (some (.int (zn (203 + m))), M) := by
  have e1 : (bif z_lt (320 : Int32) (zn m) then (320 : Int32) else zn m) = zn m := by rw [show (320 : Int32) = zn 320 from (zn_eq 320).symm, z_lt_F (by omega) (by omega)]; rfl
  have e2 : (bif z_lt (0 : Int32) (zn m) then zn m else (0 : Int32)) = zn m := by
    rw [nL_0]
    by_cases g : m = 0
    · rw [g, z_lt_F (Nat.le_refl _) (by omega)]; rfl
    · rw [z_lt_T (by omega) (by omega)]; rfl
  rw [B_O_usedOf, ia_of h, ix_L nL_14 (by omega) (by omega), cond_true, nL_14, zn_N (by omega), h14, E_min, e1, z_bI_some, E_max, e2, z_bI_some, nL_203, zn_add]
theorem max_z {lo go : Nat} (hlo : lo < 2147483648) (hg : go ≤ 20000) : (bif z_lt (zn lo) (zn go - 500) then zn go - 500 else zn lo) = zn (max lo (go - 500)) := by
  rw [nL_500]
  by_cases g : 500 ≤ go
  · rw [zn_sub g]
    by_cases g2 : lo < go - 500
    · rw [z_lt_T g2 (by omega), cond_true, Nat.max_eq_right (by omega)]
    · rw [z_lt_F (by omega) (by omega), cond_false, Nat.max_eq_left (by omega)]
  · have e : (zn go - zn 500).toInt = (go : Int) - 500 := by rw [tI_sub] <;> rw [zn_toInt (by omega), zn_toInt (by omega)] <;> omega
    rw [z_lt_iff, e, zn_toInt hlo, decide_eq_false (by omega), cond_false, Nat.max_eq_left (by omega)]
theorem c_kt (d : Nat) {M : zM} {p lo go m : Nat} (hp : 57 ≤ p) (h : z_hd zQ M p = some (14, 523)) (h14 : zI M 11 14 = zn m) (hm : m ≤ 320) (h13 : zI M 3 13 = zn lo) (hlo : lo ≤ 20000) (hg : go ≤ 20000) : z_bI (z_den zQ (d + 2) mO_usedOf [.ref 11] M) (fun x7 M8 => bif !(Nat.beq p 56) && z_fits zQ M8 11 p 0 0 x7 then z_bI (z_den zQ (d + 2) mJm_max [.int (zI (z_cpy M8 11 p (Int32.toNatClampNeg 0) (Int32.toNatClampNeg 0) (Int32.toNatClampNeg x7)) 3 13), .int (zn go - 500)] (z_cpy M8 11 p (Int32.toNatClampNeg 0) (Int32.toNatClampNeg 0) (Int32.toNatClampNeg x7))) (fun x9 M10 => some (none, z_wI M10 3 13 x9)) else none) = some (none, z_wI (z_cpy M 11 p 0 0 (203 + m)) 3 13 (zn (max lo (go - 500)))) := by
  have n0 : Int32.toNatClampNeg (0 : Int32) = 0 := by rw [nL_0]; exact zn_N (by omega)
  have hf : z_fits zQ M 11 p 0 0 (zn (203 + m)) = true := by rw [nL_0]; exact z_fits_T (Or.inr rfl) rfl h (by omega) (by omega) (by omega) (by omega) (by omega)
  have e13 : zI (z_cpy M 11 p 0 0 (203 + m)) 3 13 = zn lo := by rw [zI_cpy_a (by omega)]; exact h13
  rw [c_used d (a := 11) rfl h14 hm, z_bI_some, z_bq_F (by omega), hf, n0, zn_N (by omega), show (!false && true) = true from rfl, cond_true, e13, E_max, max_z (by omega) hg, z_bI_some]
theorem cY_cg {g : Nat → Int32} {l : yL} {f f' : Nat → Int32} (h : cY g l f) (e : ∀ j, j < 203 + l.length → f' j = f j) : cY g l f' :=
  ⟨fun j a b => by rw [e j (by omega)]; exact h.1 j a b, by rw [e 14 (by omega)]; exact h.2.1, fun k hk => by rw [e _ (by omega)]; exact h.2.2 k hk⟩
/-- the end of keeping: a copy into a row p, which stands at place go % 501 -/
theorem c_kz {n : Nat} {M : zM} {S : yR} {l : yL} {hi : yHs} {K lo go p : Nat} (hok : okL n l) (hY : cY (yG S) l (fun k => zI M 11 k)) (hK : cKp K M) (hh : cHi hi lo go K M) (hk : go % 501 < K) (hp : zP zQ M 12 (go % 501) = p) : cKp K (z_wI (z_cpy M 11 p 0 0 (203 + l.length)) 3 13 (zn (max lo (go - 500)))) ∧ cHi (upH hi go (yG S, l)) (max lo (go - 500)) (go + 1) K (z_wI (z_cpy M 11 p 0 0 (203 + l.length)) 3 13 (zn (max lo (go - 500)))) ∧ zFr 0 0 (xcK M) M (z_wI (z_cpy M 11 p 0 0 (203 + l.length)) 3 13 (zn (max lo (go - 500)))) := by
  have hp2 := hK.2.1 _ hk
  rw [hp] at hp2
  refine ⟨hK, fun t h1 h2 => ?_, ?_⟩
  · by_cases e : t = go
    · subst e
      refine ⟨hk, ?_⟩
      show cY (upH hi t (yG S, l) t).1 (upH hi t (yG S, l) t).2 (fun j => zI (z_wI (z_cpy M 11 p 0 0 (203 + l.length)) 3 13 _) (zP zQ M 12 (t % 501)) j)
      unfold upH
      rw [if_pos rfl, hp]
      refine cY_cg hY (fun j hj => ?_)
      have hj : j < 203 + l.length := hj
      show zI (z_wI (z_cpy M 11 p 0 0 (203 + l.length)) 3 13 _) p j = zI M 11 j
      rw [zI_wI_a (by omega), zI_cpy, if_pos ⟨rfl, Nat.zero_le _, by omega⟩, Nat.sub_zero, Nat.zero_add]
    · have ht : t < go := by omega
      obtain ⟨q1, q2⟩ := hh t (by omega) ht
      refine ⟨q1, ?_⟩
      have hne : t % 501 ≠ go % 501 := by omega
      have hpp := hK.2.2.2 _ _ q1 hk hne
      rw [hp] at hpp
      have hb := hK.2.1 _ q1
      show cY (upH hi go (yG S, l) t).1 (upH hi go (yG S, l) t).2 (fun j => zI (z_wI (z_cpy M 11 p 0 0 (203 + l.length)) 3 13 _) (zP zQ M 12 (t % 501)) j)
      unfold upH
      rw [if_neg e]
      refine cY_cg q2 (fun j hj => ?_)
      show zI (z_wI (z_cpy M 11 p 0 0 (203 + l.length)) 3 13 _) (zP zQ M 12 (t % 501)) j = _
      rw [zI_wI_a (by omega), zI_cpy_a hpp]
  · exact x_tr (zFr_cpy (X := xcK M) (fun i _ _ => Or.inr (Or.inr hp2))) (zFr_wI (X := xcK M) (Or.inr (Or.inl ⟨rfl, rfl⟩)))
theorem c_keep (d : Nat) {n : Nat} {M : zM} {S : yR} {l : yL} {hi : yHs} {K lo go : Nat} (h56 : 57 ≤ z_new zQ M) (hok : okL n l) (hY : cY (yG S) l (fun k => zI M 11 k)) (hK : cKp K M) (hh : cHi hi lo go K M) (h3 : yG S 3 = zn go) (hg : go ≤ 20000) (hk : go % 501 ≤ K) (hlo : lo ≤ go) (h13 : zI M 3 13 = zn lo) : ∃ M', z_den zQ (d + 3) mO_keep [.ref 3] M = some (none, M') ∧ cKp (keK K go) M' ∧ cHi (upH hi go (yG S, l)) (max lo (go - 500)) (go + 1) (keK K go) M' ∧ zI M' 3 13 = zn (max lo (go - 500)) ∧ go % 501 < keK K go ∧ zFr (keK K go - K) (523 * (keK K go - K)) (xcK M) M M' := by
  have hl2 := hok.2.1
  have n3 : Int32.toNatClampNeg (3 : Int32) = 3 := by rw [nL_3]; exact zn_N (by omega)
  have e3 : zI M 11 3 = zn go := by rw [show zI M 11 3 = yG S 3 from hY.1 3 (by omega) (by omega)]; exact h3
  have e14 : zI M 11 14 = zn l.length := hY.2.1
  have hm := Nat.mod_lt go (show 501 > 0 by omega)
  rw [B_O_keep, ix_L nL_3 (by omega) (by omega), cond_true, n3, e3, E_fm (d + 1) M (by omega), z_bI_some, z_ix_T hm (by omega), cond_true, zn_N (by omega)]
  unfold keK
  by_cases g : go % 501 < K
  · have hp := hK.2.1 _ g
    rw [if_pos g, z_bq_F (by omega), cond_false, c_kt d hp.1 hp.2 e14 hl2 h13 (by omega) hg, Nat.sub_self]
    obtain ⟨q1, q2, q3⟩ := c_kz hok hY hK hh g rfl
    exact ⟨_, rfl, q1, q2, zI_wI_s .., g, q3⟩
  · have gK : go % 501 = K := by omega
    have h0 : zP zQ M 12 (go % 501) = 0 := hK.2.2.1 _ (by omega) hm
    rw [if_neg g, h0, show Nat.beq 0 0 = true from rfl, cond_true, z_cls_of (z_hd_nw_s M (14, 523)), show (z_mem ((14, 523) : Nat × Nat).1 [14] && true) = true from rfl, cond_true]
    have hz12 : z_new zQ M ≠ 12 := by omega
    generalize hM2 : z_wP (z_nw zQ M (14, 523)) 12 (go % 501) (z_new zQ M) = M2
    have i2 : ∀ a k, a ≠ z_new zQ M → zI M2 a k = zI M a k := fun a k e => by rw [← hM2, zI_wP]; exact zI_nw_o e
    have hd2 : ∀ a g', z_hd zQ M a = some g' → z_hd zQ M2 a = some g' := fun a g' e => by
      rw [← hM2]; show z_hd zQ (z_nw zQ M (14, 523)) a = some g'
      rw [z_hd_nw_o (by have := z_hd_lt e; omega)]; exact e
    have p2 : ∀ s, zP zQ M2 12 s = if s = go % 501 then z_new zQ M else zP zQ M 12 s := fun s => by
      rw [← hM2]
      by_cases e : s = go % 501
      · rw [if_pos e, e, zP_wP_s (by omega) (by omega) (by omega)]
      · rw [if_neg e, zP_wP_k e, zP_nw_o (by omega)]
    have hdn : z_hd zQ M2 (z_new zQ M) = some (14, 523) := by rw [← hM2]; exact z_hd_nw_s M (14, 523)
    have hK2 : cKp (K + 1) M2 := by
      refine ⟨by omega, fun s hs => ?_, fun s h1 h2 => ?_, fun s s' h1 h2 h3 => ?_⟩
      · rw [p2]
        by_cases e : s = go % 501
        · rw [if_pos e]; exact ⟨h56, hdn⟩
        · rw [if_neg e]
          obtain ⟨a, b⟩ := hK.2.1 s (by omega)
          exact ⟨a, hd2 _ _ b⟩
      · rw [p2, if_neg (by omega)]; exact hK.2.2.1 s (by omega) h2
      · rw [p2, p2]
        by_cases e : s = go % 501
        · rw [if_pos e, if_neg (by omega)]
          have := z_hd_lt (hK.2.1 s' (by omega)).2
          omega
        · rw [if_neg e]
          by_cases e' : s' = go % 501
          · rw [if_pos e']
            have := z_hd_lt (hK.2.1 s (by omega)).2
            omega
          · rw [if_neg e']; exact hK.2.2.2 s s' (by omega) (by omega) h3
    have hY2 : cY (yG S) l (fun k => zI M2 11 k) := cY_cg hY (fun j _ => i2 11 j (by omega))
    have hh2 : cHi hi lo go (K + 1) M2 := fun t h1 h2 => by
      obtain ⟨a, b⟩ := hh t h1 h2
      refine ⟨by omega, cY_cg b (fun j _ => ?_)⟩
      show zI M2 (zP zQ M2 12 (t % 501)) j = zI M (zP zQ M 12 (t % 501)) j
      have := z_hd_lt (hK.2.1 _ a).2
      rw [p2, if_neg (by omega), i2 _ _ (by omega)]
    have hp2 : zP zQ M2 12 (go % 501) = z_new zQ M := by rw [p2, if_pos rfl]
    obtain ⟨q1, q2, q3⟩ := c_kz hok hY2 hK2 hh2 (by omega) hp2
    rw [c_kt d h56 hdn (by rw [i2 _ _ (by omega)]; exact e14) hl2 (by rw [i2 _ _ (by omega)]; exact h13) (by omega) hg]
    refine ⟨_, rfl, q1, q2, zI_wI_s .., by omega, ?_⟩
    have f1 : zFr 1 523 (xcK M) M M2 := by
      rw [← hM2]
      exact zFr_trans (zFr_nw (xcK M) M (14, 523)) (zFr_wP (X := xcK M) (Or.inl rfl)) (fun _ _ _ e => e)
    rw [show K + 1 - K = 1 by omega]
    exact zFr_trans f1 q3 (fun a k ha e => by
      rcases e with e | e | ⟨e1, e2⟩
      · exact Or.inl e
      · exact Or.inr (Or.inl e)
      · refine Or.inr (Or.inr ⟨e1, ?_⟩)
        rw [← hM2] at e2
        have e2 : z_hd zQ (z_nw zQ M (14, 523)) a = some (14, 523) := e2
        rw [z_hd_nw_o (by omega)] at e2
        exact e2)
theorem c_goB (d : Nat) {n : Nat} {M : zM} {S : yR} {l : yL} {hi : yHs} {K lo go m : Nat} (hY : cY (yG S) l (fun k => zI M 11 k)) (hK : cKp K M) (hh : cHi hi lo (go + 1) K M) (hl : ∀ t, lo ≤ t → t ≤ go → okL n (hi t).2) (h3 : yG S 3 = zn go) (hg : go ≤ 20000) (hm : m ≤ 500) (hlo : lo ≤ go) (h13 : zI M 3 13 = zn lo) : ∃ M', z_den zQ (d + 3) mO_goBack [.ref 3, .int (zn m)] M = some (some (.int (if lo + m ≤ go then 1 else 0)), M') ∧ (lo + m ≤ go → cY (hi (go - m)).1 (hi (go - m)).2 (fun j => zI M' 11 j)) ∧ (¬ lo + m ≤ go → M' = M) ∧ zFr 0 0 (fun a _ => a = 11) M M' := by
  have n3 : Int32.toNatClampNeg (3 : Int32) = 3 := by rw [nL_3]; exact zn_N (by omega)
  have n0 : Int32.toNatClampNeg (0 : Int32) = 0 := by rw [nL_0]; exact zn_N (by omega)
  have e3 : zI M 11 3 = zn go := by rw [show zI M 11 3 = yG S 3 from hY.1 3 (by omega) (by omega)]; exact h3
  have e13 : zI M 3 13 = zn lo := h13
  have et : (zn go - zn m).toInt = (go : Int) - m := by rw [tI_sub] <;> rw [zn_toInt (by omega), zn_toInt (by omega)] <;> omega
  rw [B_O_goBack, ix_L nL_3 (by omega) (by omega), cond_true, n3, e3]
  by_cases g : lo + m ≤ go
  · have hmod := Nat.mod_lt (go - m) (show 501 > 0 by omega)
    obtain ⟨a, b⟩ := hh (go - m) (by omega) (by omega)
    have hp := hK.2.1 _ a
    have hlen := (hl (go - m) (by omega) (by omega)).2.1
    have hf : z_fits zQ M (zP zQ M 12 ((go - m) % 501)) 11 0 0 (zn (203 + (hi (go - m)).2.length)) = true := by rw [nL_0]; exact z_fits_T (Or.inr rfl) hp.2 rfl (by omega) (by omega) (by omega) (by omega) (by omega)
    have hp57 := hp.1
    rw [zn_sub (by omega), E_fm (d + 1) M (by omega), z_bI_some, z_ix_T hmod (by omega), cond_true, e13, z_lt_F (by omega) (by omega), cond_false, zn_N (by omega), z_bq_F (by omega), cond_false, c_used d hp.2 b.2.1 hlen, z_bI_some, hf, cond_true, n0, zn_N (by omega), if_pos g]
    refine ⟨_, rfl, fun _ => cY_cg b (fun j hj => ?_), fun q => absurd g q, zFr_cpy (X := fun a _ => a = 11) (fun _ _ _ => rfl)⟩
    show zI (z_cpy M (zP zQ M 12 ((go - m) % 501)) 11 0 0 (203 + (hi (go - m)).2.length)) 11 j = _
    rw [zI_cpy, if_pos ⟨rfl, Nat.zero_le _, by omega⟩, Nat.sub_zero, Nat.zero_add]
  · have hlt : ∀ x : Int32, x.toInt < lo → z_lt x (zn lo) = true := fun x hx => by rw [z_lt_iff, zn_toInt (by omega)]; exact decide_eq_true hx
    rw [if_neg g]
    refine ⟨M, ?_, fun q => absurd q g, fun _ => rfl, zFr_refl _ _⟩
    by_cases gm : m ≤ go
    · have hmod := Nat.mod_lt (go - m) (show 501 > 0 by omega)
      rw [E_fm' (d + 1) M gm (by omega), z_bI_some, z_ix_T hmod (by omega), cond_true, e13, hlt _ (by omega), cond_true]
    · obtain ⟨y, y1, y2⟩ := E_fmN (d + 1) (x := zn go - zn m) M (by omega) (by omega)
      rw [y2, z_bI_some, z_ix_T y1 (by omega), cond_true, e13, hlt _ (by omega), cond_true]
