/-! S LEVEL, PLAYING: openings, the class. -/
theorem cJ_yC {J : zJ} {A : zM} (h : cJ J A) (f : Nat → Int32) (S : yR) : cJ J (yC A f S) := by
  refine cJ_fr (yC_fr A f S) h (by omega) (by omega) (fun k => by omega) (fun a k g hg ht e => ?_)
  have k : ∀ c n, z_hd zQ A c = some (14, n) → a ≠ c := by
    intro c n hc e
    rw [e, hc] at hg
    have h7 := Option.some.inj hg
    rw [← h7] at ht
    rcases ht with q | q | q | q | q
    · exact absurd q (by show ¬ 14 ≤ 3; omega)
    · exact absurd q (by show ¬ 14 = 5; omega)
    · exact absurd q (by show ¬ 14 = 6; omega)
    · exact absurd q (by show ¬ 14 = 7; omega)
    · exact absurd (congrArg Prod.fst q) (by show ¬ 14 = 16; omega)
  rcases e with e | e | e
  · exact k 10 17 rfl e
  · exact k 11 523 rfl e
  · exact k 13 6000 rfl e
theorem evB_opE {J : zJ} (w : wJ J) {tr F : Nat} {p : List Nat} {S : yR} {l : yL} {b : Nat} (hw : wP J p) (h1 : smZ J p ≤ F) (he : evB S b) (hb : b + 2 * smZ J p < 2147483646) : evB (opE l (opL J tr F p S l)) (b + 2 * smZ J p) := by
  obtain ⟨⟨e, q1, q2, q3⟩, q4, q5⟩ := op_inv w tr F p S l b hw h1 he (by omega)
  unfold opE
  split
  · exact evB_mo q4 (by omega)
  · have hlen : (opL J tr F p S l).2.2.length - l.length ≤ smZ J p := by rw [q1, List.length_append]; omega
    have := evB_en (dnF (opL J tr F p S l).2.2 l.length ((opL J tr F p S l).2.2.length - l.length)) q4 (by rw [dn_len]; omega)
    rw [dn_len] at this
    exact evB_mo this (by omega)
theorem okL_app {n : Nat} {l e : yL} (h : okL n l) (hl : l.length + e.length ≤ 320) (he : ∀ s, s ∈ e → okS n s) : okL n (l ++ e) := ⟨h.1, by rw [List.length_append]; exact hl, fun s hs => (List.mem_append.mp hs).elim (h.2.2 s) (he s)⟩
theorem take_pre (l e : yL) : (l ++ e).take l.length = l := by rw [List.take_append_of_le_length (Nat.le_refl _), List.take_length]
theorem getD_pre {l e : yL} {k : Nat} (h : k < l.length) : (l ++ e).getD k s0 = l.getD k s0 := getD_app_l h
theorem opE_tr {l e1 e2 : yL} {R : Bool × yR × yL} (hR : R.2.2 = (l ++ e1) ++ e2) (h : ¬ R.1 = true) : enL (opE (l ++ e1) R) (dnF (l ++ e1) l.length ((l ++ e1).length - l.length)) = opE l R := by
  unfold opE
  rw [if_neg h, if_neg h, ← en_app]
  congr 1
  have hle : R.2.2.length = l.length + e1.length + e2.length := by rw [hR, List.length_append, List.length_append]
  have e : R.2.2.length - l.length = (l ++ e1).length - l.length + (R.2.2.length - (l ++ e1).length) := by rw [List.length_append]; omega
  rw [e, dn_split, show l.length + ((l ++ e1).length - l.length) = (l ++ e1).length by rw [List.length_append]; omega]
  congr 1
  refine dn_cg _ _ (fun k hk => ?_)
  rw [List.length_append] at hk
  rw [hR, getD_pre (l := l ++ e1) (by rw [List.length_append]; omega)]
theorem evG {S : yR} {go : Nat} (h : yG S 3 = zn go) (hg : go ≤ 20000) : goN S = go := by unfold goN; rw [h]; exact zn_N (by omega)
theorem bI_n1 (x : Bool) : z_ne (bI x) 0 = x := by
  cases x
  · rw [bI_F]; exact ne_00
  · rw [bI_T]; exact ne_10
theorem c_open {J : zJ} {A : zM} (w : wJ J) (hA : cJ J A) {tr go : Nat} (ht : tr < 8) (hg2 : go ≤ 20000) : ∀ (F d dp i : Nat) (f : Nat → Int32) (S : yR) (l : yL) (b : Nat), i < jN J → jZ J i ≤ F → jZ J i ≤ dp + 1 → dp < 1000 → cY (yG S) l f → okL (jN J) l → l.length + jZ J i ≤ 320 → yG S 3 = zn go → evB S b → b + 2 * jZ J i + 1000 < 2147483646 → ∃ f', z_den zQ (d + 4 + dp) mO_startSound [.ref 3, .ref (zP zQ A 4 i), .int (zn tr), .int (zn dp)] (yC A f S) = some (some (.int (bI (opL J tr F [i] S l).1)), yC A f' (opE l (opL J tr F [i] S l))) ∧ cY (yG (opE l (opL J tr F [i] S l))) (opM l (opL J tr F [i] S l)) f'
  | 0, d, dp, i, f, S, l, b, hi, hF, hz, hdp, hY, hl, hlz, hgo, he, hb => by have := z_pos w hi; omega
  | F + 1, d, dp, i, f, S, l, b, hi, hF, hz, hdp, hY, hl, hlz, hgo, he, hb => by
    have w0 := w.1
    have hl2 := hl.2.1
    have zp := z_pos w hi
    have hz1 := (w.2.2.2 i hi).2.2.2.2.2.1
    have hM := (w.2.2.2 i hi).2.1
    obtain ⟨f2, q1, q2⟩ := ss_2 (d + 3 + dp) (tr := zn tr) (dp := zn dp) w hA hi hY
    rw [show d + 4 + dp = d + 3 + dp + 1 by omega, ss_1 (d + 3 + dp) w hA hi, q1, opl_s]
    by_cases g : yG S (23 + i) = 1
    · refine ⟨f2, ?_, ?_⟩
      · rw [pif_T g, L_O_startSound_64, ix_L nL_14 (by omega) (by omega), cond_true, g, show z_eq (1 : Int32) 1 = true by rw [z_eq_eq]; rfl, cond_true, L_O_startSound_96]
        show some (some (Value.int 0), yC A f2 (bg2 J S i)) = some (some (Value.int (bI false)), yC A f2 (enL (bg2 J S i) (dnF l l.length (l.length - l.length))))
        rw [Nat.sub_self, bI_F, nL_0]; rfl
      · rw [pif_T g]
        show cY (yG (enL (bg2 J S i) (dnF l l.length (l.length - l.length)))) l f2
        rw [Nat.sub_self]; exact q2
    · have hgo2 : yG (bg2 J S i) 3 = zn go := by rw [b2_G J S i (by omega)]; exact hgo
      have he2 : evB (bg2 J S i) b := by unfold evB evN; rw [b2_G J S i (by omega)]; exact he
      obtain ⟨f3, p1, p2⟩ := ss_3 (d + 2 + dp) (S := S) (tr := tr) (dp := dp) (left := yG S (23 + i)) w hA hi q2 (by omega) hdp ht hgo2 hg2 he2 (by omega) g
      have e3 : lgF (uG (bg2 J S i) (83 + i) (yG (bg2 J S i) (83 + i) + 1)) 1 (zn i) (zn tr) = bg3 J S i tr := by unfold bg3; rw [b2_G J S i (j := 83 + i) (by omega)]
      rw [e3] at p1 p2
      have hgN : goN S = go := evG hgo hg2
      rw [pif_F g, hgN]
      rw [show d + 2 + dp + 1 + 1 = d + 3 + dp + 1 by omega] at p1
      rw [p1]
      have hls : okL (jN J) (l ++ [(i, tr, go)]) := okL_app hl (by rw [List.length_singleton]; omega) (fun s hs => by rw [List.mem_singleton.mp hs]; exact ⟨hi, ht, hg2⟩)
      have hgo3 : yG (bg3 J S i tr) 3 = zn go := by rw [b3_G J S i tr (by omega) (by omega) (by omega)]; exact hgo
      have he3 : evB (bg3 J S i tr) (b + 1) := evB_up he (by omega) (b3_13 J S i tr)
      by_cases h6 : jS J i = 6
      · rw [if_pos h6]
        have hc2 := c_cls2 w hA hi
        rw [decide_eq_true h6] at hc2
        have nr := cJ_nr hA hi
        have hk6 := ((hA.2.2.1 i hi).2.2.2.2.2.2 h6).1
        have L : ∀ (r k : Nat) (o8 : Option Value) (f1 : Nat → Int32) (S1 : yR) (e : yL) (b1 : Nat), k + r = jM J i → wP J (msF J i k r) → cY (yG S1) (l ++ e) f1 → okL (jN J) (l ++ e) → (l ++ e).length + smZ J (msF J i k r) ≤ 320 → smZ J (msF J i k r) ≤ F → smZ J (msF J i k r) ≤ dp → yG S1 3 = zn go → evB S1 b1 → b1 + 2 * smZ J (msF J i k r) + 1000 < 2147483646 → ∃ f', z_denF zQ (d + 3 + dp + 1) mO_startSound (181, [some (.ref 3), some (.ref (zP zQ A 4 i)), some (.int (zn tr)), some (.int (zn dp)), some (.int (yG S (23 + i))), some (.int (zn l.length)), some (.ref (zP zQ A 4 i)), some (.int (zn k)), o8], [], yC A f1 S1) = some (some (.int (bI (opL J tr F (msF J i k r) S1 (l ++ e)).1)), yC A f' (opE l (opL J tr F (msF J i k r) S1 (l ++ e)))) ∧ cY (yG (opE l (opL J tr F (msF J i k r) S1 (l ++ e)))) (opM l (opL J tr F (msF J i k r) S1 (l ++ e))) f' := by
          intro r
          induction r with
          | zero =>
            intro k o8 f1 S1 e b1 hk hw hf1 hl1 hz1 hF1 hd1 hg1 he1 hb1
            refine ⟨f1, ?_, ?_⟩
            · show _ = some (some (Value.int (bI (opL J tr F [] S1 (l ++ e)).1)), yC A f1 (opE l (opL J tr F [] S1 (l ++ e))))
              rw [op_nil, L_O_startSound_181, yC_cls, hc2, cond_true, yC_o nr.1 nr.2.1 nr.2.2, hk6, z_le_T (by omega) (by omega), cond_true, bI_T, nL_1]
              rfl
            · show cY (yG (opE l (opL J tr F [] S1 (l ++ e)))) (opM l (opL J tr F [] S1 (l ++ e))) f1
              rw [op_nil]; exact hf1
          | succ r ih =>
            intro k o8 f1 S1 e b1 hk hw hf1 hl1 hz1 hF1 hd1 hg1 he1 hb1
            have em : msF J i k (r + 1) = [jB J i k] ++ msF J i (k + 1) r := rfl
            rw [em] at hw hz1 hF1 hd1 hb1 ⊢
            have hwm := wP_c hw
            have hmi := hwm.1
            have hmp := z_pos w hmi
            have hsm : smZ J ([jB J i k] ++ msF J i (k + 1) r) = jZ J (jB J i k) + smZ J (msF J i (k + 1) r) := rfl
            rw [hsm] at hz1 hF1 hd1 hb1
            have hs1 : smZ J [jB J i k] = jZ J (jB J i k) := rfl
            have hwm1 : wP J [jB J i k] := fun q hq => by rw [List.mem_singleton.mp hq]; exact hmi
            obtain ⟨fc, c1, c2⟩ := c_open w hA ht hg2 F d (dp - 1) (jB J i k) f1 S1 (l ++ e) b1 hmi (by omega) (by omega) (by omega) hf1 hl1 (by omega) hg1 he1 (by omega)
            rw [show d + 4 + (dp - 1) = d + 3 + dp by omega] at c1
            have hpa := c_part (d + 2 + dp) (cJ_yC hA f1 S1) w hi h6 (k := k) (by omega)
            rw [yC_P, yC_P, show d + 2 + dp + 1 = d + 3 + dp by omega] at hpa
            have nzm := cJ_nz hA hmi
            have hdm : zn dp - 1 = zn (dp - 1) := by rw [nL_1, zn_sub (by omega)]
            obtain ⟨⟨ec, i1, i2, i3⟩, i4, i5⟩ := op_inv w tr F [jB J i k] S1 (l ++ e) b1 hwm1 (by rw [hs1]; omega) he1 (by rw [hs1]; omega)
            rw [hs1] at i2 i4
            rw [op_app w tr F [jB J i k] (msF J i (k + 1) r) S1 (l ++ e) hwm1 hwm.2 (by rw [hs1]; omega)]
            rw [L_O_startSound_181, yC_cls, hc2, cond_true, yC_o nr.1 nr.2.1 nr.2.2, hk6, z_le_F (by omega) (by omega), cond_false, cond_true, hpa, z_bR_some, z_bq_F nzm, cond_false, hdm, c1, z_bI_some, bI_n1]
            by_cases hR : (opL J tr F [jB J i k] S1 (l ++ e)).1 = true
            · rw [if_pos hR, hR, cond_true, zn_1]
              have eE : opE (l ++ e) (opL J tr F [jB J i k] S1 (l ++ e)) = (opL J tr F [jB J i k] S1 (l ++ e)).2.1 := if_pos hR
              have eM : opM (l ++ e) (opL J tr F [jB J i k] S1 (l ++ e)) = l ++ (e ++ ec) := by unfold opM; rw [if_pos hR, i1, List.append_assoc]
              rw [eE, eM] at c2
              rw [eE, i1, List.append_assoc]
              have hll : (l ++ (e ++ ec)).length = (l ++ e).length + ec.length := by rw [← List.append_assoc, List.length_append]
              exact ih (k + 1) (some (.ref (zP zQ A 4 (jB J i k)))) fc _ (e ++ ec) (b1 + jZ J (jB J i k)) (by omega) hwm.2 c2 (by
                rw [← List.append_assoc]
                refine okL_app hl1 (by omega) (fun s hs => ?_)
                obtain ⟨s1, s2, s3⟩ := i3 s hs
                rw [evG hg1 hg2] at s3
                exact ⟨s1, by omega, by omega⟩) (by omega) (by omega) (by omega) (by rw [i5 3 (by omega) (by omega)]; exact hg1) i4 (by omega)
            · have hRf : (opL J tr F [jB J i k] S1 (l ++ e)).1 = false := by cases hq : (opL J tr F [jB J i k] S1 (l ++ e)).1 <;> simp_all
              have eM : opM (l ++ e) (opL J tr F [jB J i k] S1 (l ++ e)) = l ++ e := if_neg hR
              rw [eM] at c2
              obtain ⟨fe, d1, d2⟩ := c_eDT (d + dp) (A := A) (a := l.length) hl1 c2 (evB_opE w (l := l ++ e) hwm1 (by rw [hs1]; omega) he1 (by rw [hs1]; omega)) (by rw [hs1]; omega) (by rw [List.length_append]; omega)
              rw [opE_tr i1 hR, show d + dp + 3 = d + 3 + dp by omega] at d1
              rw [opE_tr i1 hR, take_pre] at d2
              refine ⟨fe, ?_, ?_⟩
              · rw [if_neg hR, hRf, cond_false, d1, z_bV_some, bI_F, nL_0]
              · rw [if_neg hR]
                unfold opM
                rw [if_neg hR]; exact d2
        have hlm : (l ++ [(i, tr, go)]).length = l.length + 1 := by rw [List.length_append, List.length_singleton]
        have := L (jM J i) 0 none f3 (bg3 J S i tr) [(i, tr, go)] (b + 1) (by omega) (wP_ms w hi) p2 hls (by omega) (by omega) (by omega) hgo3 he3 (by omega)
        rw [List.append_nil]
        rw [← nL_0] at this
        exact this
      · have hM0 := (w.2.2.2 i hi).2.2.1 h6
        rw [if_neg h6, hM0]
        refine ⟨f3, ?_, ?_⟩
        · show _ = some (some (Value.int (bI (opL J tr F [] (bg3 J S i tr) (l ++ [(i, tr, go)])).1)), yC A f3 (opE l (opL J tr F [] (bg3 J S i tr) (l ++ [(i, tr, go)]))))
          rw [op_nil, bI_T, nL_1]; rfl
        · show cY (yG (opE l (opL J tr F [] (bg3 J S i tr) (l ++ [(i, tr, go)])))) (opM l (opL J tr F [] (bg3 J S i tr) (l ++ [(i, tr, go)]))) f3
          rw [op_nil]; exact p2
