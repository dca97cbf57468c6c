/-! rows (arrays) -/
section SN
variable {X : zX} {S : zS} {n0 : Nat} {mts : List (MethodName × ByteArray × Nat × Option FieldType)} {cc : ByteArray} {own : String} {nL : Nat} {ini : Bool} {ret : Option FieldType} {pc n : Nat}
theorem s_alen {al : List Nat} (hd : decode cc pc = .ok (.arraylength, 1)) (hal : al.all (fun t => decide (12 ≤ t) && decide (t < 20)) = true) : zSnd X S n0 mts cc own nL ini ret pc (aALen (pc + 1) al) := by
  intro p l e R s m args below meth c hG d t0 s0 Q r kc cl lc st M h hk hc h1 h2 h3 h4 hE H locs ls a1 a2 a3 a4 a5 a6
  unfold aALen at h
  split at h
  · next a rest =>
    obtain ⟨g1, g2⟩ := z_gg_spec h
    obtain ⟨g, hg, hm⟩ := z_cls_spec g1
    have ht := List.all_eq_true.mp hal _ hm
    rw [Bool.and_eq_true, decide_eq_true_eq, decide_eq_true_eq] at ht
    obtain ⟨t, nn⟩ := g
    obtain ⟨ha, hc1, -⟩ := zRep.arr a1 ht.1 ht.2 hg
    have kk := (hk _ g2).1 H locs ls a1 a2 a3 a4 a5 a6
    have ez : z_ln S M a = nn := by unfold z_ln; rw [hg]
    show W p l e R s m args below meth c H locs _ _ Q (F0 m pc ls (zE X (.ref a) :: _))
    rw [zE_ref X ha]
    refine W.alen (n := Int32.ofNat nn) hG.1 hG.2.1 hc1 ((hG.2.2.2.2.2.1.1.2 t ht.1 ht.2).1 _ _) (by rw [arrV_size]; first | done | rfl) rfl rfl hd ?_
    rw [← ez]
    exact kk
  · cases h
theorem s_alenS (hd : decode cc pc = .ok (.arraylength, 1)) : zSnd X S n0 mts cc own nL ini ret pc (aALen (pc + 1) [20]) := by
  intro p l e R s m args below meth c hG d t0 s0 Q r kc cl lc st M h hk hc h1 h2 h3 h4 hE H locs ls a1 a2 a3 a4 a5 a6
  unfold aALen at h
  split at h
  · next a rest =>
    obtain ⟨g1, g2⟩ := z_gg_spec h
    obtain ⟨g, hg, hm⟩ := z_cls_spec g1
    obtain ⟨t, nn⟩ := g
    have ht : t = 20 := List.mem_singleton.mp hm
    subst ht
    obtain ⟨ha, scr, b1, b2, b3, b4, b5, b6⟩ := zRep.scr a1 hg
    have kk := (hk _ g2).1 H locs ls a1 a2 a3 a4 a5 a6
    have ez : z_ln S M a = nn := by unfold z_ln; rw [hg]
    show W p l e R s m args below meth c H locs _ _ Q (F0 m pc ls (zE X (.ref a) :: _))
    rw [zE_ref X ha]
    refine W.alen (n := Int32.ofNat nn) hG.1 hG.2.1 b1 (hG.2.2.2.2.2.1.scr b2 b3) (by rw [b5]; first | done | rfl) rfl rfl hd ?_
    rw [← ez]
    exact kk
  · cases h
theorem s_ialoadS (hd : decode cc pc = .ok (.iaload, 1)) : zSnd X S n0 mts cc own nL ini ret pc (aXI (pc + 1) 20) := by
  intro p l e R s m args below meth c hG d t0 s0 Q r kc cl lc st M h hk hc h1 h2 h3 h4 hE H locs ls a1 a2 a3 a4 a5 a6
  unfold aXI at h
  split at h
  · next i a rest =>
    obtain ⟨g1, g2⟩ := z_gg_spec h
    obtain ⟨nn, hg, hin⟩ := z_ia_spec g1
    obtain ⟨ha, scr, b1, b2, b3, b4, b5, b6⟩ := zRep.scr a1 hg
    have kk := (hk _ g2).1 H locs ls a1 a2 a3 a4 a5 a6
    have hlt : i.toNatClampNeg < nn := Nat.not_le.mp fun q => hin (Or.inr q)
    show W p l e R s m args below meth c H locs _ _ Q (F0 m pc ls (.int i :: zE X (.ref a) :: _))
    rw [zE_ref X ha]
    exact W.iald hG.1 hG.2.1 b1 (hG.2.2.2.2.2.1.scr b2 b3) b4 (by rw [b5]; exact hin) (b6 _ hlt) rfl rfl hd kk
  · cases h
theorem z_elem_int {M : zM} {t a k : Nat} (h : t < 16) (h2 : t ≠ 13) : z_elem X S M t a k = .int (zI M a k) := by
  unfold z_elem
  rw [if_neg h2, if_neg (by omega)]
theorem z_elem_ref {M : zM} {t a k : Nat} (h : 16 ≤ t) : z_elem X S M t a k = zE X (.ref (zP S M a k)) := by
  unfold z_elem
  rw [if_neg (by omega), if_pos h]
theorem s_XI {tg : Nat} (htg : 12 ≤ tg ∧ tg < 16 ∧ tg ≠ 13) (hr : ∀ (p : Program) (l : Launch) (e : Env) (R : Room) (s : State) (m : MethodId) (args : Array Value) (below : List Frame) (meth : Method) (c : Code) (H : Heap) (locs : List Loc) (cells slots : Nat) (Q : State → Prop) (ls : Array Slot) (rest : List Value) (a : Addr) (cell : Cell) (j : Int32) (v : Value),
      p.tables.exec = Jvm.exec → c.code = cc → H[a]? = some cell → s.isArrayOf cell (z_ty tg) → cell.vm ≠ .unknown → ¬ (j < 0 ∨ cell.slots.size ≤ j.toNatClampNeg) → cell.slots[j.toNatClampNeg]? = some v → W p l e R s m args below meth c H locs cells slots Q (F0 m (pc + 1) ls (v :: rest)) → W p l e R s m args below meth c H locs cells slots Q (F0 m pc ls (.int j :: .ref a :: rest))) : zSnd X S n0 mts cc own nL ini ret pc (aXI (pc + 1) tg) := by
  intro p l e R s m args below meth c hG d t0 s0 Q r kc cl lc st M h hk hc h1 h2 h3 h4 hE H locs ls a1 a2 a3 a4 a5 a6
  unfold aXI at h
  split at h
  · next i a rest =>
    obtain ⟨g1, g2⟩ := z_gg_spec h
    obtain ⟨nn, hg, hin⟩ := z_ia_spec g1
    obtain ⟨ha, hc1, -⟩ := zRep.arr a1 htg.1 (by omega) hg
    have kk := (hk _ g2).1 H locs ls a1 a2 a3 a4 a5 a6
    have hlt : i.toNatClampNeg < nn := Nat.not_le.mp fun q => hin (Or.inr q)
    show W p l e R s m args below meth c H locs _ _ Q (F0 m pc ls (.int i :: zE X (.ref a) :: _))
    rw [zE_ref X ha]
    refine hr p l e R s m args below meth c H locs _ _ Q ls _ _ _ i (.int (zI M a i.toNatClampNeg)) hG.1 hG.2.1 hc1 ((hG.2.2.2.2.2.1.1.2 tg htg.1 (by omega)).1 _ _) (fun q => by cases q) (by rw [arrV_size]; exact hin) ?_ kk
    rw [arrV_read _ _ hlt]
    unfold z_elem
    rw [if_neg htg.2.2, if_neg (by omega)]
  · cases h
theorem s_iaload (hd : decode cc pc = .ok (.iaload, 1)) : zSnd X S n0 mts cc own nL ini ret pc (aXI (pc + 1) 14) := s_XI (by decide) fun _ _ _ _ _ _ _ _ _ _ _ _ _ _ _ _ _ _ _ _ _ hx hb h1 h2 h3 h4 h5 k => W.iald hx hb h1 h2 h3 h4 h5 rfl rfl hd k
theorem s_baloadB (hd : decode cc pc = .ok (.baload, 1)) : zSnd X S n0 mts cc own nL ini ret pc (aXI (pc + 1) 12) := s_XI (by decide) fun _ _ _ _ _ _ _ _ _ _ _ _ _ _ _ _ _ _ _ _ _ hx hb h1 h2 h3 h4 h5 k => W.bald hx hb h1 h2 h3 h4 h5 rfl rfl hd k
theorem s_baloadZ (hd : decode cc pc = .ok (.baload, 1)) : zSnd X S n0 mts cc own nL ini ret pc (aXI (pc + 1) 15) := s_XI (by decide) fun _ _ _ _ _ _ _ _ _ _ _ _ _ _ _ _ _ _ _ _ _ hx hb h1 h2 h3 h4 h5 k => W.zald hx hb h1 h2 h3 h4 h5 rfl rfl hd k
theorem s_daload (hd : decode cc pc = .ok (.daload, 1)) : zSnd X S n0 mts cc own nL ini ret pc (aXD (pc + 1)) := by
  intro p l e R s m args below meth c hG d t0 s0 Q r kc cl lc st M h hk hc h1 h2 h3 h4 hE H locs ls a1 a2 a3 a4 a5 a6
  unfold aXD at h
  split at h
  · next i a rest =>
    obtain ⟨g1, g2⟩ := z_gg_spec h
    obtain ⟨nn, hg, hin⟩ := z_ia_spec g1
    obtain ⟨ha, hc1, -⟩ := zRep.arr a1 (by omega) (by omega) hg
    have kk := (hk _ g2).1 H locs ls a1 a2 a3 a4 a5 a6
    have hlt : i.toNatClampNeg < nn := Nat.not_le.mp fun q => hin (Or.inr q)
    show W p l e R s m args below meth c H locs _ _ Q (F0 m pc ls (.int i :: zE X (.ref a) :: _))
    rw [zE_ref X ha]
    refine W.dald (v := .double (zD M a i.toNatClampNeg)) hG.1 hG.2.1 hc1 ((hG.2.2.2.2.2.1.1.2 13 (by omega) (by omega)).1 _ _) (fun q => by cases q) (by rw [arrV_size]; exact hin) ?_ rfl rfl hd kk
    rw [arrV_read _ _ hlt]
    rfl
  · cases h
theorem z_ty_ref {tg : Nat} (h : 16 ≤ tg) (h2 : tg < 20) : (z_ty tg).isReference = true := by
  rcases (show tg = 16 ∨ tg = 17 ∨ tg = 18 ∨ tg = 19 by omega) with rfl | rfl | rfl | rfl <;> rfl
theorem s_aaload {tg : Nat} (hd : decode cc pc = .ok (.aaload, 1)) (htg : 16 ≤ tg ∧ tg < 20) : zSnd X S n0 mts cc own nL ini ret pc (aXR (pc + 1) tg) := by
  intro p l e R s m args below meth c hG d t0 s0 Q r kc cl lc st M h hk hc h1 h2 h3 h4 hE H locs ls a1 a2 a3 a4 a5 a6
  unfold aXR at h
  split at h
  · next i a rest =>
    obtain ⟨g1, g2⟩ := z_gg_spec h
    obtain ⟨nn, hg, hin⟩ := z_ia_spec g1
    obtain ⟨ha, hc1, -⟩ := zRep.arr a1 (by omega) (by omega) hg
    have kk := (hk _ g2).1 H locs ls a1 a2 a3 a4 a5 a6
    have hlt : i.toNatClampNeg < nn := Nat.not_le.mp fun q => hin (Or.inr q)
    show W p l e R s m args below meth c H locs _ _ Q (F0 m pc ls (.int i :: zE X (.ref a) :: _))
    rw [zE_ref X ha]
    refine W.aald (v := zE X (.ref (zP S M a i.toNatClampNeg))) (ty := z_ty tg) hG.1 hG.2.1 hc1 ((hG.2.2.2.2.2.1.1.2 tg (by omega) (by omega)).1 _ _) (z_ty_ref htg.1 htg.2) (fun q => by cases q) (by rw [arrV_size]; exact hin) ?_ rfl rfl hd kk
    rw [arrV_read _ _ hlt]
    unfold z_elem
    rw [if_neg (by omega), if_pos htg.1]
  · cases h
/-- a row changes at one place -/
theorem zRep.row {M M' : zM} {H H' : Heap} {a t nn j : Nat} {v : Value} (hX : zXok X n0) (hR : zRep X S n0 M H) (ht : 12 ≤ t) (ht2 : t < 20) (hg : z_hd S M a = some (t, nn)) (hT : M'.1 = M.1)
    (hI : ∀ b k, b ≠ a → zI M' b k = zI M b k) (hP : ∀ b k, b ≠ a → zP S M' b k = zP S M b k) (hD : ∀ b k, b ≠ a → zD M' b k = zD M b k) (he : ∀ k, z_elem X S M' t a k = updV (z_elem X S M t a) j v k) (hb : t = 12 → ∀ k, fits .byte (.int (zI M' a k)) = true)
    (e1 : H'[X.1 a]? = some ((arrV (X.2.2.2.2 t) nn (z_elem X S M t a)).setSlot j v)) (hz : H'.size = H.size) (hq : ∀ q, q ≠ X.1 a → H'[q]? = H[q]?) : zRep X S n0 M' H' := by
  obtain ⟨ha, -, -⟩ := hR.arr ht ht2 hg
  refine hR.upd hX hT ha hI hP hD hz hq (fun h0 hh => ?_)
  cases hg.symm.trans hh
  refine Or.inr (Or.inl ⟨ht, ht2, ?_, hb⟩)
  rw [e1, arrV_store, show updV (z_elem X S M t a) j v = z_elem X S M' t a from funext fun k => (he k).symm]
theorem s_YI {tg : Nat} {f : Int32 → Int32} {act : zA} {gd : zS → zM → Nat → Int32 → Bool} (hgd : ∀ S M a i, gd S M a i = true → z_ia S M a tg i = true ∧ (a ≠ 56 ∨ tg ≠ 14)) (hact : ∀ S lc st M, act S lc st M = match st with | .int v :: .int i :: .ref a :: r => z_gg (gd S M a i) (pc + 1, lc, r, z_wI M a i.toNatClampNeg (f v)) | _ => none) (htg : 12 ≤ tg ∧ tg < 16 ∧ tg ≠ 13) (hfit : tg = 12 → ∀ x, fits .byte (.int (f x)) = true) (hr : ∀ (p : Program) (l : Launch) (e : Env) (R : Room) (s : State) (m : MethodId) (args : Array Value) (below : List Frame) (meth : Method) (c : Code) (H : Heap) (locs : List Loc) (cells slots : Nat) (Q : State → Prop) (ls : Array Slot) (rest : List Value) (a : Addr) (cell : Cell) (j x : Int32),
      p.tables.exec = Jvm.exec → c.code = cc → H[a]? = some cell → s.isArrayOf cell (z_ty tg) → cell.vm ≠ .unknown → ¬ (j < 0 ∨ cell.slots.size ≤ j.toNatClampNeg) → (∀ H' : Heap, H'[a]? = some (cell.setSlot j.toNatClampNeg (.int (f x))) → H'.size = H.size → (∀ q, q ≠ a → H'[q]? = H[q]?) → W p l e R s m args below meth c H' (locs ++ [⟨a, j.toNatClampNeg⟩]) cells slots Q (F0 m (pc + 1) ls rest)) → W p l e R s m args below meth c H locs cells slots Q (F0 m pc ls (.int x :: .int j :: .ref a :: rest))) : zSnd X S n0 mts cc own nL ini ret pc act := by
  intro p l e R s m args below meth c hG d t0 s0 Q r kc cl lc st M h hk hc h1 h2 h3 h4 hE H locs ls a1 a2 a3 a4 a5 a6
  rw [hact] at h
  split at h
  · next v i a rest =>
    obtain ⟨g0, g2⟩ := z_gg_spec h
    have g0 := hgd _ _ _ _ g0
    obtain ⟨nn, hg, hin⟩ := z_ia_spec g0.1
    have hne := g0.2
    obtain ⟨ha, hc1, hby⟩ := zRep.arr a1 htg.1 (by omega) hg
    have hlt : i.toNatClampNeg < nn := Nat.not_le.mp fun q => hin (Or.inr q)
    show W p l e R s m args below meth c H locs _ _ Q (F0 m pc ls (.int v :: .int i :: zE X (.ref a) :: _))
    rw [zE_ref X ha]
    refine hr p l e R s m args below meth c H locs _ _ Q ls _ _ _ i v hG.1 hG.2.1 hc1 ((hG.2.2.2.2.2.1.1.2 tg htg.1 (by omega)).1 _ _) (fun q => by cases q) (by rw [arrV_size]; exact hin) (fun H' e1 e2 e3 => ?_)
    refine (hk _ g2).1 H' _ ls (zRep.row hG.2.2.2.2.2.2.1 a1 htg.1 (by omega) hg rfl (fun b j hb => by rw [zq_zI_wI, if_neg (fun z => hb z.1)]) (fun _ _ _ => rfl) (fun _ _ _ => rfl) (fun k => ?_) (fun h12 k => ?_) e1 e2 e3) a2 (fun x hx => ?_) (fun x hx => ?_) a5 a6
    · unfold updV
      rw [z_elem_int htg.2.1 htg.2.2, z_elem_int htg.2.1 htg.2.2]
      show Value.int (zI (z_wI M a i.toNatClampNeg (f v)) a k) = _
      rw [zq_zI_wI]
      by_cases hj : k = i.toNatClampNeg
      · rw [if_pos hj, if_pos ⟨rfl, hj⟩]
      · rw [if_neg hj, if_neg (fun z => hj z.2)]
    · show fits .byte (.int (zI (z_wI M a i.toNatClampNeg (f v)) a k)) = true
      rw [zq_zI_wI]
      by_cases hj : k = i.toNatClampNeg
      · rw [if_pos ⟨rfl, hj⟩]; exact hfit h12 v
      · rw [if_neg (fun z => hj z.2)]; exact hby h12 k
    · rcases List.mem_append.mp hx with hx | hx
      · exact a3 x hx
      · rw [List.mem_singleton] at hx; subst hx; exact (a1.base hG.2.2.2.2.2.2.1 ha hg (Or.inl (show tg ≠ 20 by omega)))
    · rw [e3 x (fun z => Nat.not_le.mpr hx (z ▸ (a1.base hG.2.2.2.2.2.2.1 ha hg (Or.inl (show tg ≠ 20 by omega)))))]; exact a4 x hx
  · cases h
theorem s_iastore (hd : decode cc pc = .ok (.iastore, 1)) : zSnd X S n0 mts cc own nL ini ret pc (aYI (pc + 1)) := s_YI (tg := 14) (f := fun x => x) (gd := fun S M a i => !(Nat.beq a 56) && z_ia S M a 14 i) (fun S M a i h => by
    rw [Bool.and_eq_true, z_beq_eq] at h
    exact ⟨h.2, Or.inl (by simpa using h.1)⟩) (fun _ _ _ _ => rfl) (by decide) (fun h => by cases h) fun _ _ _ _ _ _ _ _ _ _ _ _ _ _ _ _ _ _ _ _ _ hx hb h1 h2 h3 h4 k => W.iast hx hb h1 h2 h3 h4 rfl rfl hd k
theorem z_byte_fits (x : Int32) : fits .byte (.int x.toInt8.toInt32) = true := by
  show (decide (-128 ≤ x.toInt8.toInt32) && decide (x.toInt8.toInt32 ≤ 127)) = true
  have h1 := Int8.minValue_le_toInt x.toInt8
  have h2 := Int8.toInt_lt x.toInt8
  have e : x.toInt8.toInt32.toInt = x.toInt8.toInt := Int8.toInt_toInt32 _
  rw [Bool.and_eq_true, decide_eq_true_eq, decide_eq_true_eq, Int32.le_iff_toInt_le, Int32.le_iff_toInt_le, e]
  have e1 : (-128 : Int32).toInt = -128 := by decide
  have e2 : (127 : Int32).toInt = 127 := by decide
  have e0 : Int8.minValue.toInt = -128 := by decide
  rw [e1, e2]
  omega
theorem s_bastoreB (hd : decode cc pc = .ok (.bastore, 1)) : zSnd X S n0 mts cc own nL ini ret pc (aYB (pc + 1)) := s_YI (tg := 12) (f := fun x => x.toInt8.toInt32) (gd := fun S M a i => z_ia S M a 12 i) (fun S M a i h => ⟨h, Or.inr (by decide)⟩) (fun _ _ _ _ => rfl) (by decide) (fun _ x => z_byte_fits x) fun _ _ _ _ _ _ _ _ _ _ _ _ _ _ _ _ _ _ _ _ _ hx hb h1 h2 h3 h4 k => W.bast hx hb h1 h2 h3 h4 rfl rfl hd k
theorem s_bastoreZ (hd : decode cc pc = .ok (.bastore, 1)) : zSnd X S n0 mts cc own nL ini ret pc (aYZ (pc + 1)) := s_YI (tg := 15) (f := fun x => x &&& 1) (gd := fun S M a i => z_ia S M a 15 i) (fun S M a i h => ⟨h, Or.inr (by decide)⟩) (fun _ _ _ _ => rfl) (by decide) (fun h => by cases h) fun _ _ _ _ _ _ _ _ _ _ _ _ _ _ _ _ _ _ _ _ _ hx hb h1 h2 h3 h4 k => W.zast hx hb h1 h2 h3 h4 rfl rfl hd k
theorem s_dastore (hd : decode cc pc = .ok (.dastore, 1)) : zSnd X S n0 mts cc own nL ini ret pc (aYD (pc + 1)) := by
  intro p l e R s m args below meth c hG d t0 s0 Q r kc cl lc st M h hk hc h1 h2 h3 h4 hE H locs ls a1 a2 a3 a4 a5 a6
  unfold aYD at h
  split at h
  · next v i a rest =>
    obtain ⟨g0, g2⟩ := z_gg_spec h
    obtain ⟨nn, hg, hin⟩ := z_ia_spec g0
    have hne : a ≠ 56 ∨ (13 : Nat) ≠ 14 := Or.inr (by decide)
    obtain ⟨ha, hc1, hby⟩ := zRep.arr a1 (by omega) (by omega) hg
    have hlt : i.toNatClampNeg < nn := Nat.not_le.mp fun q => hin (Or.inr q)
    show W p l e R s m args below meth c H locs _ _ Q (F0 m pc ls (.double v :: .int i :: zE X (.ref a) :: _))
    rw [zE_ref X ha]
    refine W.dast hG.1 hG.2.1 hc1 ((hG.2.2.2.2.2.1.1.2 13 (by omega) (by omega)).1 _ _) (fun q => by cases q) (by rw [arrV_size]; exact hin) rfl rfl hd (fun H' e1 e2 e3 => ?_)
    refine (hk _ g2).1 H' _ ls (zRep.row hG.2.2.2.2.2.2.1 a1 (by omega) (by omega) hg rfl (fun _ _ _ => rfl) (fun _ _ _ => rfl) (fun b j hb => by rw [zq_zD_wD, if_neg (fun z => hb z.1)]) (fun k => ?_) (fun h12 k => by cases h12) e1 e2 e3) a2 (fun x hx => ?_) (fun x hx => ?_) a5 a6
    · unfold updV
      show Value.double (zD (z_wD M a i.toNatClampNeg v) a k) = if k = i.toNatClampNeg then Value.double v else Value.double (zD M a k)
      rw [zq_zD_wD]
      by_cases hj : k = i.toNatClampNeg
      · rw [if_pos hj, if_pos ⟨rfl, hj⟩]
      · rw [if_neg hj, if_neg (fun z => hj z.2)]
    · rcases List.mem_append.mp hx with hx | hx
      · exact a3 x hx
      · rw [List.mem_singleton] at hx; subst hx; exact (a1.base hG.2.2.2.2.2.2.1 ha hg (Or.inl (show (13 : Nat) ≠ 20 by omega)))
    · rw [e3 x (fun z => Nat.not_le.mpr hx (z ▸ (a1.base hG.2.2.2.2.2.2.1 ha hg (Or.inl (show (13 : Nat) ≠ 20 by omega)))))]; exact a4 x hx
  · cases h
/-- what may go into a row of references -/
def zq_z_put (tg : Nat) (t : Nat) : Bool := (decide (tg = 19) && decide (t = 14)) || match vwCl[t]? with
  | some q => decide (t < 12) && (decide (q.1 = z_cn tg) || decide (Cond.castable q.1 (z_cn tg) ∈ lw_tbl)) && decide (tg ≠ 19)
  | none => false
theorem z_put_spec {s : State} {tg v : Nat} {g : Nat × Nat} {M : zM} {H : Heap} (htg : 16 ≤ tg ∧ tg < 20) (hK : zK X s) (hW : zWd s) (hR : zRep X S n0 M H) (hg : z_hd S M v = some g) (hp : zq_z_put tg g.1 = true) {kA : Class} {comp : ClassId} (hk : s.vm.classes[X.2.2.2.2 tg]? = some kA) (hkind : kA.kind = .array comp (z_ty tg)) (hcn : s.vm.findClass (z_cn tg) = some comp) : 0 < v ∧ ∃ (cv : Cell) (kv : Class), H[X.1 v]? = some cv ∧ (∀ q, cv.vm ≠ .statics q) ∧ s.vm.classes[cv.cls]? = some kv ∧ s.vm.assignable cv.cls comp = true := by
  unfold zq_z_put at hp
  rw [Bool.or_eq_true] at hp
  rcases hp with hp | hp
  · rw [Bool.and_eq_true, decide_eq_true_eq, decide_eq_true_eq] at hp
    obtain ⟨rfl, h14⟩ := hp
    obtain ⟨t, nn⟩ := g
    cases h14
    obtain ⟨hv, hc1, -⟩ := hR.arr (t := 14) (by decide) (by decide) hg
    obtain ⟨-, f1, kA', comp', f2, -, -⟩ := hK.1.2 14 (by omega) (by omega)
    have e : comp = X.2.2.2.2 14 := by
      have f1 : s.vm.findClass "[I" = some (X.2.2.2.2 14) := f1
      have hcn : s.vm.findClass "[I" = some comp := hcn
      exact Option.some.inj (hcn.symm.trans f1)
    exact ⟨hv, _, kA', hc1, (fun q hq => by cases hq), f2, (by rw [e]; exact va_asg _ _)⟩
  · split at hp
    · next q hq =>
      rw [Bool.and_eq_true, Bool.and_eq_true, decide_eq_true_eq, Bool.or_eq_true, decide_eq_true_eq, decide_eq_true_eq] at hp
      obtain ⟨⟨h12, hcs⟩, -⟩ := hp
      obtain ⟨hv, ⟨cell, e1, e2, e3, -⟩, -⟩ := hR.obj h12 hg
      obtain ⟨-, hfc, kC, hkC, -⟩ := hK.1.1 g.1 _ hq
      refine ⟨hv, cell, kC, e1, (fun q hq => by rw [e3] at hq; cases hq), (by rw [e2]; exact hkC), ?_⟩
      rw [e2]
      rcases hcs with hcs | hcs
      · rw [hcs] at hfc
        cases hfc.symm.trans hcn
        exact va_asg _ _
      · obtain ⟨c0, t0, f1, f2, f3⟩ := Cond.castable_spec (hW.use hcs #[])
        cases f1.symm.trans hfc
        cases f2.symm.trans hcn
        exact f3
    · cases hp
theorem z_rowR {p : Program} {l : Launch} {e : Env} {R : Room} {s : State} {m : MethodId} {args : Array Value} {below : List Frame} {meth : Method} {c : Code} {H : Heap} {locs : List Loc} {cells slots : Nat} {Q : State → Prop} {ls : Array Slot} {rest : List Value} {M : zM} {a v tg nn : Nat} {i : Int32} (hG : zq_zG X n0 p s m meth c cc own nL ini) (hR : zRep X S n0 M H) (htg : 16 ≤ tg ∧ tg < 20) (hg : z_hd S M a = some (tg, nn)) (hin : ¬ (i < 0 ∨ nn ≤ i.toNatClampNeg)) (hv : (v = 0 ∧ tg ≠ 19) ∨ ∃ g, z_hd S M v = some g ∧ zq_z_put tg g.1 = true) (hf : z_free S a i.toNatClampNeg = true) (hd : decode cc pc = .ok (.aastore, 1))
    (kk : ∀ H' : Heap, zRep X S n0 (z_wP M a i.toNatClampNeg v) H' → (∀ q : Nat, q ≠ X.1 a → H'[q]? = H[q]?) → W p l e R s m args below meth c H' (locs ++ [⟨X.1 a, i.toNatClampNeg⟩]) cells slots Q (F0 m (pc + 1) ls rest)) : W p l e R s m args below meth c H locs cells slots Q (F0 m pc ls (zE X (.ref v) :: .int i :: zE X (.ref a) :: rest)) := by
  obtain ⟨ha, hc1, -⟩ := hR.arr (by omega) (by omega) hg
  obtain ⟨hA, hfc, kA, comp, hk, hkind, hx⟩ := hG.2.2.2.2.2.1.1.2 tg (by omega) (by omega)
  obtain ⟨hcn, kc, hkc⟩ := hx htg.1
  have hlt : i.toNatClampNeg < nn := Nat.not_le.mp fun q => hin (Or.inr q)
  rw [zE_ref X ha]
  have fin : ∀ H' : Heap, H'[X.1 a]? = some ((arrV (X.2.2.2.2 tg) nn (z_elem X S M tg a)).setSlot i.toNatClampNeg (zE X (.ref v))) → H'.size = H.size → (∀ q : Nat, q ≠ X.1 a → H'[q]? = H[q]?) → W p l e R s m args below meth c H' (locs ++ [⟨X.1 a, i.toNatClampNeg⟩]) cells slots Q (F0 m (pc + 1) ls rest) := by
    intro H' e1 e2 e3
    refine kk H' (zRep.row hG.2.2.2.2.2.2.1 hR (by omega) (by omega) hg rfl (fun _ _ _ => rfl) (fun b j hb => by rw [zq_zP_wP S M a _ v hf, if_neg (fun z => hb z.1)]) (fun _ _ _ => rfl) (fun k => ?_) (fun h12 => by omega) e1 e2 e3) e3
    unfold updV
    rw [z_elem_ref htg.1, z_elem_ref htg.1, zq_zP_wP S M a _ v hf]
    by_cases hj : k = i.toNatClampNeg
    · rw [if_pos hj, if_pos ⟨rfl, hj⟩]
    · rw [if_neg hj, if_neg (fun z => hj z.2)]
  rcases hv with ⟨rfl, h19⟩ | ⟨g, hgv, hp⟩
  · obtain ⟨C, hC⟩ : ∃ C, z_ty tg = .object C := by
      rcases (show tg = 16 ∨ tg = 17 ∨ tg = 18 by omega) with rfl | rfl | rfl <;> exact ⟨_, rfl⟩
    have hA2 := hA nn (z_elem X S M tg a)
    rw [hC] at hA2
    exact va_WaastN (C := C) hG.1 hG.2.1 hc1 hA2 (fun q => by cases q) (by rw [arrV_size]; exact hin) rfl rfl hd fin
  · obtain ⟨hv0, cv, kv, b1, b2, b3, b4⟩ := z_put_spec htg hG.2.2.2.2.2.1 hG.2.2.2.2.1 hR hgv hp hk hkind hcn
    have fin2 := fin
    rw [zE_ref X hv0] at fin2 ⊢
    exact W.aast hG.1 hG.2.1 hc1 (fun q hq => by cases hq) (fun q => by cases q) hk hkind (z_ty_ref htg.1 htg.2) hkc ⟨fun q => hin (Or.inl q), by rw [arrV_size]; exact hlt⟩ b1 b2 b3 b4 rfl rfl hd fin2
theorem s_aastore {tg : Nat} {al : List Nat} (hd : decode cc pc = .ok (.aastore, 1)) (htg : 16 ≤ tg ∧ tg < 19) (hal : al.all (zq_z_put tg) = true) : zSnd X S n0 mts cc own nL ini ret pc (aYR (pc + 1) tg al) := by
  intro p l e R s m args below meth c hG d t0 s0 Q r kc cl lc st M h hk hc h1 h2 h3 h4 hE H locs ls a1 a2 a3 a4 a5 a6
  unfold aYR at h
  split at h
  · next v i a rest =>
    obtain ⟨g0, g2⟩ := z_gg_spec h
    rw [Bool.and_eq_true, Bool.and_eq_true, Bool.or_eq_true] at g0
    obtain ⟨gf, gv, gi⟩ := g0
    obtain ⟨nn, hg, hin⟩ := z_ia_spec gi
    have hne : a ≠ 56 ∨ tg ≠ 14 := Or.inr (by omega)
    obtain ⟨ha, -, -⟩ := zRep.arr a1 (by omega) (by omega) hg
    refine z_rowR hG a1 ⟨htg.1, by omega⟩ hg hin ?_ gf hd (fun H' b1 b2 => ?_)
    · rcases gv with gv | gv
      · exact Or.inl ⟨Nat.eq_of_beq_eq_true gv, by omega⟩
      · obtain ⟨g, e1, e2⟩ := z_cls_spec gv
        exact Or.inr ⟨g, e1, List.all_eq_true.mp hal _ e2⟩
    · refine (hk _ g2).1 H' _ ls b1 a2 (fun x hx => ?_) (fun x hx => ?_) a5 a6
      · rcases List.mem_append.mp hx with hx | hx
        · exact a3 x hx
        · rw [List.mem_singleton] at hx; subst hx; exact (a1.base hG.2.2.2.2.2.2.1 ha hg (Or.inl (show tg ≠ 20 by omega)))
      · rw [b2 x (fun z => Nat.not_le.mpr hx (z ▸ (a1.base hG.2.2.2.2.2.2.1 ha hg (Or.inl (show tg ≠ 20 by omega)))))]; exact a4 x hx
  · cases h
theorem s_aastoreG {al : List Nat} (hd : decode cc pc = .ok (.aastore, 1)) (hal : al.all (zq_z_put 19) = true) : zSnd X S n0 mts cc own nL ini ret pc (aYG (pc + 1) 19 al) := by
  intro p l e R s m args below meth c hG d t0 s0 Q r kc cl lc st M h hk hc h1 h2 h3 h4 hE H locs ls a1 a2 a3 a4 a5 a6
  unfold aYG at h
  split at h
  · next v i a rest =>
    obtain ⟨g0, g2⟩ := z_gg_spec h
    rw [Bool.and_eq_true, Bool.and_eq_true] at g0
    obtain ⟨gf, gv, gi⟩ := g0
    obtain ⟨nn, hg, hin⟩ := z_ia_spec gi
    have hne : a ≠ 56 ∨ (19 : Nat) ≠ 14 := Or.inr (by decide)
    obtain ⟨ha, -, -⟩ := zRep.arr a1 (by omega) (by omega) hg
    obtain ⟨g, e1, e2⟩ := z_cls_spec gv
    refine z_rowR hG a1 ⟨by omega, by omega⟩ hg hin (Or.inr ⟨g, e1, List.all_eq_true.mp hal _ e2⟩) gf hd (fun H' b1 b2 => ?_)
    refine (hk _ g2).1 H' _ ls b1 a2 (fun x hx => ?_) (fun x hx => ?_) a5 a6
    · rcases List.mem_append.mp hx with hx | hx
      · exact a3 x hx
      · rw [List.mem_singleton] at hx; subst hx; exact (a1.base hG.2.2.2.2.2.2.1 ha hg (Or.inl (show (19 : Nat) ≠ 20 by omega)))
    · rw [b2 x (fun z => Nat.not_le.mpr hx (z ▸ (a1.base hG.2.2.2.2.2.2.1 ha hg (Or.inl (show (19 : Nat) ≠ 20 by omega)))))]; exact a4 x hx
  · cases h
end SN
