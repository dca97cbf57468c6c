/-! S LEVEL, PLAYING: what a hole keeps. -/
theorem okL_ft {n : Nat} {l : yL} (h : okL n l) (t : Nat) : okL n (ftF t l) := by
  refine ⟨h.1, ?_, fun s hs => h.2.2 s ?_⟩
  · have := List.length_filter_le (fun s : Nat × Nat × Nat => decide (s.2.1 ≠ t)) l
    have := h.2.1
    unfold ftF; omega
  · unfold ftF at hs; exact (List.mem_filter.mp hs).1
theorem iv_cg {n : Nat} {S S' : yR} {l : yL} (h : iv n S l) (e : ∀ j, j < 9 → yG S' j = yG S j) : iv n S' l := by
  obtain ⟨h1, h2, h3, go, h4, h5⟩ := h
  refine ⟨h1, fun t ht => ?_, fun c c1 c2 => ?_, go, ?_, h5⟩
  · rw [e 7 (by omega)]; exact h2 t ht
  · rw [e 8 (by omega)]; exact h3 c c1 c2
  · rw [e 3 (by omega)]; exact h4
theorem hoS_bt (S : yR) {t u : Nat} (ht : t < 8) (hu : u < 8) : btF (yG (hoS S t) 7) u = (btF (yG S 7) u ^^ decide (u = t)) := by
  unfold hoS
  rw [yG_uG, up_s, bt_xor, bt_1 (by omega) (by omega)]
/-- a list grown on an open track -/
theorem iv_op {n : Nat} {S S' : yR} {l e : yL} {t : Nat} (h : iv n S l) (ht : t < 8) (g : btF (yG S 7) t = false) (e1 : ∀ j, j < 9 → j ≠ 7 → yG S' j = yG S j) (e7 : yG S' 7 = yG (hoS S t) 7) (he : e.length ≤ 40) (hs : ∀ s, s ∈ e → okS n s ∧ s.2.1 = t) : iv n S' (l ++ e) := by
  have hl := iv_len h ht g
  obtain ⟨h1, h2, h3, go, h4, h5⟩ := h
  refine ⟨okL_app h1 (by omega) (fun s q => (hs s q).1), fun u hu => ?_, fun c c1 c2 => ?_, go, ?_, h5⟩
  · rw [e7, hoS_bt S ht hu, ct_app]
    by_cases q : u = t
    · subst q
      have a := (h2 u hu).2 g
      have b := ct_le u e
      rw [decide_eq_true rfl, g]
      exact ⟨by omega, fun q => by cases q⟩
    · have b := ct_no (t := u) (l := e) (fun s z w => q (by rw [← w]; exact (hs s z).2))
      rw [decide_eq_false q, Bool.xor_false, b]
      exact h2 u hu
  · rw [e1 8 (by omega) (by omega)]; exact h3 c c1 c2
  · rw [e1 3 (by omega) (by omega)]; exact h4
theorem iv_sh {n : Nat} {S S' : yR} {l : yL} {t : Nat} (h : iv n S l) (ht : t < 8) (g : btF (yG S 7) t = true) (e1 : ∀ j, j < 9 → j ≠ 7 → yG S' j = yG S j) (e7 : yG S' 7 = yG (hoS S t) 7) : iv n S' (ftF t l) := by
  obtain ⟨h1, h2, h3, go, h4, h5⟩ := h
  refine ⟨okL_ft h1 t, fun u hu => ?_, fun c c1 c2 => ?_, go, ?_, h5⟩
  · rw [e7, hoS_bt S ht hu, ct_ft]
    by_cases q : u = t
    · subst q
      rw [if_pos rfl]
      exact ⟨by omega, fun _ => rfl⟩
    · rw [decide_eq_false q, Bool.xor_false, if_neg q]
      exact h2 u hu
  · rw [e1 8 (by omega) (by omega)]; exact h3 c c1 c2
  · rw [e1 3 (by omega) (by omega)]; exact h4
theorem lg_e {S : yR} {b : Nat} (h : evB S b) (hb : b < 2147483646) (x y z : Int32) : evB (lgF S x y z) (b + 1) := evB_up h hb (by rw [lg_G, up_s])
/-- a hole: what is kept, and what of the state it leaves as it was -/
theorem iv_ho {J : zJ} {H : zH} {S : yR} {l : yL} {t b : Nat} (p : Bool) (wj : wJ J) (w : wH (jN J) H) (ht : t < 8) (hi : iv (jN J) S l) (he : evB S b) (hb : b + 2000 < 2147483646) : iv (jN J) (hoF J H t p S l).1 (hoF J H t p S l).2 ∧ evB (hoF J H t p S l).1 (b + 320) ∧ ∀ j, j < 23 → j ≠ 7 → j ≠ 13 → yG (hoF J H t p S l).1 j = yG S j := by
  have w0 := wj.1
  have hl := hi.1
  have hl2 := hl.2.1
  obtain ⟨go, hgo, hg2⟩ := hi.2.2.2
  have he1 := hoS_e (t := t) he
  have hgo1 : yG (hoS S t) 3 = zn go := by rw [hoS_G S t (by omega)]; exact hgo
  unfold hoF
  by_cases g : btF (yG S 7) t = p
  · rw [if_pos g]; exact ⟨hi, evB_mo he (by omega), fun _ _ _ _ => rfl⟩
  rw [if_neg g]
  cases p
  · have g' : btF (yG S 7) t = true := by cases hq : btF (yG S 7) t <;> simp_all
    rw [if_pos rfl]
    have eG : ∀ j, j < 143 → j ≠ 13 → yG (enL (hoS S t) (dtF l t l.length)) j = yG (hoS S t) j := fun j a c => en_G hl.1 _ _ (dt_ok hl t _ (Nat.le_refl _)) c a
    have hd := dt_len l t l.length
    refine ⟨iv_sh hi ht g' (fun j a c => ?_) (eG 7 (by omega) (by omega)), ?_, fun j a c e => ?_⟩
    · show yG (enL (hoS S t) (dtF l t l.length)) j = _
      rw [eG j (by omega) (by omega), hoS_G S t c]
    · exact evB_mo (evB_en _ he1 (by omega)) (by omega)
    · show yG (enL (hoS S t) (dtF l t l.length)) j = _
      rw [eG j (by omega) e, hoS_G S t c]
  · have g' : btF (yG S 7) t = false := by cases hq : btF (yG S 7) t <;> simp_all
    have hlen := iv_len hi ht g'
    rw [if_neg (by decide)]
    have base : iv (jN J) (hoS S t) l := by
      have := iv_op (e := []) hi ht g' (fun j a c => hoS_G S t c) rfl (Nat.zero_le _) (fun s hs => by cases hs)
      rw [List.append_nil] at this; exact this
    have lg : ∀ z : Int32, iv (jN J) (lgF (hoS S t) 3 (zn t) z) l ∧ evB (lgF (hoS S t) 3 (zn t) z) (b + 320) ∧ ∀ j, j < 23 → j ≠ 7 → j ≠ 13 → yG (lgF (hoS S t) 3 (zn t) z) j = yG S j := fun z => ⟨iv_cg base (fun j a => by rw [lg_G, up_o (by omega)]), evB_mo (lg_e he1 (by omega) _ _ _) (by omega), fun j a c e => by rw [lg_G, up_o e, hoS_G S t c]⟩
    by_cases q1 : chW H t = -1 ∨ btF (yG S 8) (chW H t).toNatClampNeg = false
    · rw [pif_T q1]; exact ⟨base, evB_mo he1 (by omega), fun j a c e => hoS_G S t c⟩
    rw [pif_F q1]
    by_cases q2 : hoI H t
    · rw [pif_T q2]
      by_cases q3 : hoP H t = -1
      · rw [pif_T q3]; exact lg 1
      rw [pif_F q3]
      have hcc : (chW H t).toNatClampNeg < chN H := by
        rcases w.2.2.2.2.2.2 t ht with ec | ⟨c, hc, ec⟩
        · exact absurd (Or.inl ec) q1
        · have := w.1; rw [ec, zn_N (by omega)]; exact hc
      have w5 := chF_n w (c := (chW H t).toNatClampNeg + 1) (by omega)
      have hy : (chI H t).toNatClampNeg < chF H ((chW H t).toNatClampNeg + 1) - chF H (chW H t).toNatClampNeg := by
        obtain ⟨y, hy, ey⟩ := zn_ex q2.1
        have q22 := q2.2
        rw [ey, zn_toInt hy] at q22
        rw [ey, zn_N hy]; omega
      have hii : (hoP H t).toNatClampNeg < jN J := by
        rcases w.2.2.2.2.2.1 (chF H (chW H t).toNatClampNeg + (chI H t).toNatClampNeg) (by omega) with ep | ⟨i, hi', ep⟩
        · exact absurd ep q3
        · unfold hoP; rw [ep, zn_N (by omega)]; exact hi'
      generalize (hoP H t).toNatClampNeg = i at hii
      have z40 := (wj.2.2.2 i hii).2.2.2.2.2.2.1
      have hw1 : wP J [i] := fun q hq => by rw [List.mem_singleton.mp hq]; exact hii
      have hs1 : smZ J [i] = jZ J i := rfl
      obtain ⟨⟨e, i1, i2, i3⟩, i4, i5⟩ := op_inv wj t 40 [i] (hoS S t) l b hw1 (by rw [hs1]; omega) he1 (by rw [hs1]; omega)
      rw [hs1] at i2
      have oG : ∀ j, j < 23 → j ≠ 13 → yG (opE l (opL J t 40 [i] (hoS S t) l)) j = yG (hoS S t) j := fun j a c => op_G wj hii hl ht (by omega) hgo1 hg2 he1 (by omega) c a
      have oE := evB_opE wj (tr := t) (F := 40) (l := l) hw1 (by rw [hs1]; omega) he1 (by rw [hs1]; omega)
      rw [hs1] at oE
      have oM : iv (jN J) (opE l (opL J t 40 [i] (hoS S t) l)) (opM l (opL J t 40 [i] (hoS S t) l)) := by
        have hx : ∃ e', opM l (opL J t 40 [i] (hoS S t) l) = l ++ e' ∧ e'.length ≤ 40 ∧ ∀ s, s ∈ e' → okS (jN J) s ∧ s.2.1 = t := by
          unfold opM
          split
          · refine ⟨e, i1, by omega, fun s hs => ?_⟩
            obtain ⟨s1, s2, s3⟩ := i3 s hs
            rw [evG hgo1 hg2] at s3
            exact ⟨⟨s1, by omega, by omega⟩, s2⟩
          · exact ⟨[], (List.append_nil _).symm, Nat.zero_le _, fun s hs => by cases hs⟩
        obtain ⟨e', x1, x2, x3⟩ := hx
        rw [x1]
        exact iv_op hi ht g' (fun j a c => by rw [oG j (by omega) (by omega), hoS_G S t c]) (oG 7 (by omega) (by omega)) x2 x3
      unfold hoO
      split
      · exact ⟨oM, evB_mo oE (by omega), fun j a c e => by show yG (opE l (opL J t 40 [i] (hoS S t) l)) j = _; rw [oG j a e, hoS_G S t c]⟩
      · refine ⟨iv_cg oM (fun j a => ?_), evB_mo (lg_e oE (by omega) _ _ _) (by omega), fun j a c e => ?_⟩
        · show yG (lgF _ _ _ _) j = _
          rw [lg_G, up_o (by omega)]
        · show yG (lgF _ _ _ _) j = _
          rw [lg_G, up_o e, oG j a e, hoS_G S t c]
    · rw [pif_F q2]; exact lg 2
