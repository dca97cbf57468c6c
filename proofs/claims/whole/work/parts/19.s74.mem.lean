/-! fields and rows -/
theorem z_mem_iff (n : Nat) : ∀ (l : List Nat), z_mem n l = true ↔ n ∈ l
  | [] => by simp [z_mem]
  | x :: r => by
    unfold z_mem
    rw [z_beq_eq]
    by_cases h : n = x
    · simp [h]
    · simp [h, z_mem_iff n r]
theorem z_cls_spec {S : zS} {M : zM} {a : Nat} {al : List Nat} (h : z_cls S M a al = true) : ∃ g, z_hd S M a = some g ∧ g.1 ∈ al := by
  unfold z_cls at h
  split at h
  · next g hg => exact ⟨g, hg, (z_mem_iff _ _).mp h⟩
  · cases h
theorem z_ia_spec {S : zS} {M : zM} {a tg : Nat} {i : Int32} (h : z_ia S M a tg i = true) : ∃ n, z_hd S M a = some (tg, n) ∧ ¬ (i < 0 ∨ n ≤ i.toNatClampNeg) := by
  unfold z_ia at h
  split at h
  · next g hg =>
    rw [z_beq_eq] at h
    by_cases e : g.1 = tg
    · rw [decide_eq_true e] at h
      have h : z_ix i g.2 = true := h
      rw [z_ix_eq] at h
      exact ⟨g.2, by rw [hg, ← e], of_decide_eq_true h⟩
    · rw [decide_eq_false e] at h
      cases h
  · cases h
theorem zRep.pos {X : zX} {S : zS} {n0 : Nat} {M : zM} {H : Heap} (hR : zRep X S n0 M H) {a : Nat} {g : Nat × Nat} (h : z_hd S M a = some g) (hg : g.1 < 99) : 0 < a := by
  cases a with
  | zero => have := hR.2.2.2.2 g h; omega
  | succ a => omega
theorem zRep.base {X : zX} {S : zS} {n0 : Nat} {M : zM} {H : Heap} (hR : zRep X S n0 M H) (hX : zXok X n0) {a : Nat} (ha : 0 < a) {g : Nat × Nat} (h : z_hd S M a = some g) (hg : g.1 ≠ 20 ∨ a ≠ 56) : X.2.1 ≤ X.1 a := by
  by_cases e : a = 56
  · subst e
    rcases hR.2.2.2.1 g h with h1 | h1
    · rcases hg with hg | hg
      · exact absurd h1 hg
      · exact absurd rfl hg
    · exact h1
  · exact hX.2.2.1 a ha e
theorem zE_ref (X : zX) {a : Nat} (h : 0 < a) : zE X (.ref a) = .ref (X.1 a) := by
  cases a with
  | zero => omega
  | succ a => rfl
theorem zRep.arr {X : zX} {S : zS} {n0 : Nat} {M : zM} {H : Heap} (hR : zRep X S n0 M H) {a t n : Nat} (ht : 12 ≤ t) (ht2 : t < 20) (h : z_hd S M a = some (t, n)) : 0 < a ∧ H[X.1 a]? = some (arrV (X.2.2.2.2 t) n (z_elem X S M t a)) ∧ (t = 12 → ∀ j, fits .byte (.int (zI M a j)) = true) := by
  have ha := hR.pos h (by show t < 99; omega)
  rcases hR.2.2.1 a _ ha h with ⟨e1, -⟩ | ⟨-, -, e3, e4⟩ | ⟨e1, -⟩
  · exact absurd e1 (by show ¬ t < 12; omega)
  · exact ⟨ha, e3, e4⟩
  · exact absurd e1 (by show ¬ t = 20; omega)
theorem zRep.scr {X : zX} {S : zS} {n0 : Nat} {M : zM} {H : Heap} (hR : zRep X S n0 M H) {a n : Nat} (h : z_hd S M a = some (20, n)) : 0 < a ∧ ∃ scr : Cell, H[X.1 a]? = some scr ∧ scr.cls = X.2.2.2.2 20 ∧ (∀ k, scr.vm ≠ .statics k) ∧ scr.vm ≠ .unknown ∧ scr.slots.size = n ∧ ∀ j, j < n → scr.slots[j]? = some (.int (zI M a j)) := by
  have ha := hR.pos h (by show 20 < 99; omega)
  rcases hR.2.2.1 a _ ha h with ⟨e1, -⟩ | ⟨-, e1, -⟩ | ⟨-, e2⟩
  · exact absurd e1 (by show ¬ 20 < 12; omega)
  · exact absurd e1 (by show ¬ 20 < 20; omega)
  · exact ⟨ha, e2⟩
theorem zK.scr {X : zX} {U : State} (hK : zK X U) {scr : Cell} (h1 : scr.cls = X.2.2.2.2 20) (h2 : ∀ k, scr.vm ≠ .statics k) : U.isArrayOf scr .int := by
  obtain ⟨-, k, hk, comp, hkind⟩ := hK.2 0 (fun _ => .null)
  exact ⟨h2, k, by rw [h1]; exact hk, comp, hkind⟩
theorem zRep.obj {X : zX} {S : zS} {n0 : Nat} {M : zM} {H : Heap} (hR : zRep X S n0 M H) {a : Nat} {g : Nat × Nat} (ht : g.1 < 12) (h : z_hd S M a = some g) : 0 < a ∧ t_OB (X.1 a) (X.2.2.1 g.1) g.2 (X.2.2.2.1 g.1) H (z_cell X S M g.1 a) ∧ (∃ q : vw_C, vwCl[g.1]? = some q ∧ q.2.2 = g.2) := by
  have ha := hR.pos h (by omega)
  rcases hR.2.2.1 a _ ha h with ⟨-, e2, e3⟩ | ⟨e1, -⟩ | ⟨e1, -⟩
  · exact ⟨ha, e2, e3⟩
  · omega
  · omega
/-- what the tables say of the classes' fields -/
theorem z_lay0 : ∀ w ∈ u_ws RX0 TX0 5, w ∈ lw_tbl := by decide +kernel
theorem z_lay1 : ∀ w ∈ u_ws RX1 TX1 5, w ∈ lw_tbl := by decide +kernel
theorem z_lay2 : ∀ w ∈ u_ws RX2 TX2 7, w ∈ lw_tbl := by decide +kernel
theorem z_lay3 : ∀ w ∈ u_ws RX3 TX3 5, w ∈ lw_tbl := by decide +kernel
theorem z_lay5 : ∀ w ∈ u_ws RX5 TX5 17, w ∈ lw_tbl := by decide +kernel
theorem z_lay6 : ∀ w ∈ u_ws RX6 TX6 5, w ∈ lw_tbl := by decide +kernel
theorem z_lay7 : ∀ w ∈ u_ws RX7 TX7 5, w ∈ lw_tbl := by decide +kernel
theorem z_lay8 : ∀ w ∈ u_ws RX8 TX8 5, w ∈ lw_tbl := by decide +kernel
theorem z_lay9 : ∀ w ∈ u_ws RX9 TX9 2, w ∈ lw_tbl := by decide +kernel
theorem z_lay10 : ∀ w ∈ u_ws RX10 TX10 7, w ∈ lw_tbl := by decide +kernel
theorem z_lay11 : ∀ w ∈ u_ws RX11 TX11 8, w ∈ lw_tbl := by decide +kernel
theorem z_lay12 : ∀ w ∈ u_ws RX12 TX12 68, w ∈ lw_tbl := by decide +kernel
def z_tys : List (Nat → FieldType) := [tyX0, tyX1, tyX2, tyX3, tyX5, tyX6, tyX7, tyX8, tyX9, tyX10, tyX11, tyX12]
theorem z_facts : ∀ (t : Nat) (q : vw_C), vwCl[t]? = some q → (∀ w ∈ u_ws q.1 q.2.1 q.2.2, w ∈ lw_tbl) ∧ (∀ a, a < q.2.2 → ∀ b, b < q.2.2 → a ≠ b → (q.2.1 a).2.1 ≠ (q.2.1 b).2.1) ∧ ∃ ty : Nat → FieldType, z_tys[t]? = some ty ∧ ∀ k, k < q.2.2 → parseFieldDescriptor (q.2.1 k).2.2.1 = some (ty k)
  | 0, q, h => by cases h; exact ⟨z_lay0, nmX0, _, rfl, tyX0_ok⟩
  | 1, q, h => by cases h; exact ⟨z_lay1, nmX1, _, rfl, tyX1_ok⟩
  | 2, q, h => by cases h; exact ⟨z_lay2, nmX2, _, rfl, tyX2_ok⟩
  | 3, q, h => by cases h; exact ⟨z_lay3, nmX3, _, rfl, tyX3_ok⟩
  | 4, q, h => by cases h; exact ⟨z_lay5, nmX5, _, rfl, tyX5_ok⟩
  | 5, q, h => by cases h; exact ⟨z_lay6, nmX6, _, rfl, tyX6_ok⟩
  | 6, q, h => by cases h; exact ⟨z_lay7, nmX7, _, rfl, tyX7_ok⟩
  | 7, q, h => by cases h; exact ⟨z_lay8, nmX8, _, rfl, tyX8_ok⟩
  | 8, q, h => by cases h; exact ⟨z_lay9, nmX9, _, rfl, tyX9_ok⟩
  | 9, q, h => by cases h; exact ⟨z_lay10, nmX10, _, rfl, tyX10_ok⟩
  | 10, q, h => by cases h; exact ⟨z_lay11, nmX11, _, rfl, tyX11_ok⟩
  | 11, q, h => by cases h; exact ⟨z_lay12, nmX12, _, rfl, tyX12_ok⟩
  | t + 12, q, h => by simp [vwCl] at h
/-- field k of kind t is what a reference (ref, nm, ds) names; its sort; final or not -/
def z_fb (t k : Nat) (ref nm ds : String) (knd : Nat) (fin : Bool) : Bool := match vwCl[t]? with
  | some q => decide (t < 12) && decide (k < q.2.2) && decide ((q.2.1 k).2.1 = nm) && decide ((q.2.1 k).2.2.1 = ds) && decide (z_fk t k = knd) && decide ((q.2.1 k).2.2.2 = fin) && (decide ((q.2.1 k).1 = ref) || decide (Cond.sameField ref (q.2.1 k).1 nm ds ∈ lw_tbl))
  | none => false
theorem z_fb_spec {t k : Nat} {ref nm ds : String} {knd : Nat} {fin : Bool} (h : z_fb t k ref nm ds knd fin = true) : ∃ q : vw_C, vwCl[t]? = some q ∧ t < 12 ∧ k < q.2.2 ∧ (q.2.1 k).2.1 = nm ∧ (q.2.1 k).2.2.1 = ds ∧ z_fk t k = knd ∧ (q.2.1 k).2.2.2 = fin ∧ ((q.2.1 k).1 = ref ∨ Cond.sameField ref (q.2.1 k).1 nm ds ∈ lw_tbl) := by
  unfold z_fb at h
  split at h
  · next q hq =>
    simp only [Bool.and_eq_true, Bool.or_eq_true, decide_eq_true_eq] at h
    obtain ⟨⟨⟨⟨⟨⟨h1, h2⟩, h3⟩, h4⟩, h5⟩, h6⟩, h7⟩ := h
    exact ⟨q, hq, h1, h2, h3, h4, h5, h6, h7⟩
  · cases h
section SN
variable {X : zX} {S : zS} {n0 : Nat} {mts : List (MethodName × ByteArray × Nat × Option FieldType)} {cc : ByteArray} {own : String} {nL : Nat} {ini : Bool} {ret : Option FieldType} {pc n : Nat}
variable {p : Program} {l : Launch} {e : Env} {R : Room} {s : State} {m : MethodId} {args : Array Value} {below : List Frame} {meth : Method} {c : Code} {H : Heap} {locs : List Loc} {cells slots : Nat} {Q : State → Prop} {ls : Array Slot} {rest : List Value}
theorem z_same {ref nm ds o : String} (hW : zWd s) (h : o = ref ∨ Cond.sameField ref o nm ds ∈ lw_tbl) (x : ClassId × Class × Nat × Field) (hx : s.fieldFound? o nm ds = some x) : s.fieldFound? ref nm ds = some x := by
  rcases h with rfl | h
  · exact hx
  · exact u_same (hW.use h #[]) x hx
theorem z_getW {M : zM} {a k index knd : Nat} {g : Nat × Nat} {ref nm ds : String} {fin : Bool} (hG : zq_zG X n0 p s m meth c cc own nL ini) (hR : zRep X S n0 M H) (hh : z_hd S M a = some g) (hf : z_fb g.1 k ref nm ds knd fin = true) (hw : Cond.fieldLink own index ref nm ds ∈ lw_tbl) (hd : decode cc pc = .ok (.getfield index, 3))
    (kk : W p l e R s m args below meth c H locs cells slots Q (F0 m (pc + 3) ls (z_cell X S M g.1 a k :: rest))) : W p l e R s m args below meth c H locs cells slots Q (F0 m pc ls (zE X (.ref a) :: rest)) := by
  obtain ⟨q, h1, h2, h3, h4, h5, h6, h7, h8⟩ := z_fb_spec hf
  obtain ⟨ha, ⟨cell, q1, q2, q3, q4⟩, q', hq', hN⟩ := hR.obj h2 hh
  cases h1.symm.trans hq'
  obtain ⟨f1, f2, ty, f3, f4⟩ := z_facts _ _ h1
  obtain ⟨hS, hfc, kC, hkC, hkind⟩ := hG.2.2.2.2.2.1.1.1 g.1 _ h1
  obtain ⟨cf, kf, fi, f, hi, hsl⟩ := hS k h3
  rw [zE_ref X ha]
  subst h4; subst h5
  refine W.getf hG.1 hG.2.1 hG.2.2.2.1 (hG.2.2.2.2.1.use hw args) (z_same hG.2.2.2.2.1 h8 _ hi) (u_facts hfc hkC (u_lays (hG.2.2.2.2.1.all args) f1 h3) hi).1 q1 (by rw [q3]; exact fun h => by cases h) (v := z_cell X S M g.1 a k) ?_ rfl rfl hd kk
  rw [hsl, q4 k (by rw [← hN]; exact h3)]
theorem z_putW {M : zM} {a k index knd : Nat} {g : Nat × Nat} {ref nm ds : String} {fin : Bool} {ty : FieldType} {v : Value} (hG : zq_zG X n0 p s m meth c cc own nL ini) (hR : zRep X S n0 M H) (hh : z_hd S M a = some g) (hf : z_fb g.1 k ref nm ds knd fin = true) (hw : Cond.fieldLink own index ref nm ds ∈ lw_tbl) (hd : decode cc pc = .ok (.putfield index, 3))
    (hty : parseFieldDescriptor ds = some ty) (hn : narrow ty v = v) (hfit : fits ty v = true) (hfin : fin = false ∨ (ini = true ∧ ∀ q : vw_C, vwCl[g.1]? = some q → (q.2.1 k).1 = own))
    (kk : ∀ (H' : Heap) (sl : Nat), H'.size = H.size → (∀ q, q ≠ X.1 a → H'[q]? = H[q]?) → t_OB (X.1 a) (X.2.2.1 g.1) g.2 (X.2.2.2.1 g.1) H' (updV (z_cell X S M g.1 a) k v) → W p l e R s m args below meth c H' (locs ++ [⟨X.1 a, sl⟩]) cells slots Q (F0 m (pc + 3) ls rest)) : W p l e R s m args below meth c H locs cells slots Q (F0 m pc ls (v :: zE X (.ref a) :: rest)) := by
  obtain ⟨q, h1, h2, h3, h4, h5, h6, h7, h8⟩ := z_fb_spec hf
  obtain ⟨ha, ⟨cell, q1, q2, q3, q4⟩, q', hq', hN⟩ := hR.obj h2 hh
  cases h1.symm.trans hq'
  obtain ⟨f1, f2, ty0, f3, f4⟩ := z_facts _ _ h1
  obtain ⟨hS, hfc, kC, hkC, hkind⟩ := hG.2.2.2.2.2.1.1.1 g.1 _ h1
  have hts := hG.2.2.2.2.1.all args
  have hap : ∀ x y, x < q.2.2 → y < q.2.2 → x ≠ y → X.2.2.2.1 g.1 x ≠ X.2.2.2.1 g.1 y := by
    intro x y hx hy hne
    obtain ⟨_, _, _, fa, hia, ea⟩ := hS x hx
    obtain ⟨_, _, _, fb, hib, eb⟩ := hS y hy
    rw [← ea, ← eb]
    refine u_apart (u_lays hts f1 hx) (u_lays hts f1 hy) hia hib ?_
    rw [(State.fieldFound?_type hia (f4 x hx)).1, (State.fieldFound?_type hib (f4 y hy)).1]
    exact f2 x hx y hy hne
  obtain ⟨cf, kf, fi, f, hi, hsl⟩ := hS k h3
  rw [zE_ref X ha]
  subst h4; subst h5
  have hst := (u_facts hfc hkC (u_lays hts f1 h3) hi).1
  have hlay := hts _ (f1 _ (u_in_lay h3))
  unfold u_lay at hlay
  rw [← hN] at q4
  have hlt : f.slot < cell.slots.size := by rw [hsl]; exact k2_hasslot (q4 k h3)
  have hkk : ∀ H' : Heap, H'[X.1 a]? = some (cell.setSlot f.slot v) → H'.size = H.size → (∀ q, q ≠ X.1 a → H'[q]? = H[q]?) → W p l e R s m args below meth c H' (locs ++ [⟨X.1 a, f.slot⟩]) cells slots Q (F0 m (pc + 3) ls rest) := by
    intro H' e1 e2 e3
    refine kk H' f.slot e2 e3 ⟨_, e1, q2, q3, ?_⟩
    rw [hsl, ← hN]
    exact t_set q4 hap h3 v
  cases hfn : (q.2.1 k).2.2.2
  · rw [hfn, if_neg (by decide)] at hlay
    have h6 := u_store hfc hkC hkind hlay hi hty hn hfit
    exact W.putK hG.1 hG.2.1 (f := f) ⟨hG.2.2.2.1, hG.2.2.2.2.1.use hw args, ⟨_, _, _, z_same hG.2.2.2.2.1 h8 _ hi⟩, hst⟩ (by rw [q2]; exact h6) q1 q3 hlt rfl rfl hd hkk
  · rw [hfn, if_pos rfl] at hlay
    rcases hfin with hfin | ⟨hi1, hdecl⟩
    · rw [hfin] at h7; rw [h7] at hfn; cases hfn
    · have hdecl := hdecl _ h1
      have hcf : m.cls = cf := by
        obtain ⟨_, _, c', _, _, _, -, -, hf', -, -, -, hown2, -⟩ := Cond.laysFinal_spec hlay
        have e1 : c' = cf := by have := hi.symm.trans hf'; simp at this; exact this.1.symm
        rw [hdecl] at hown2
        rw [← e1]; exact Option.some.inj (hG.2.2.2.1.symm.trans hown2)
      have h6 := u_fits hfc hkC hkind (Or.inr hlay) hi hty hn hfit
      exact W.putFinK hG.1 hG.2.1 hG.2.2.2.1 (hG.2.2.2.2.1.use hw args) (z_same hG.2.2.2.2.1 h8 _ hi) hst hcf (hG.2.2.2.2.2.2.2 hi1) (by rw [q2]; exact h6) q1 q3 hlt rfl rfl hd hkk
end SN
section SN
variable {X : zX} {S : zS} {n0 : Nat} {mts : List (MethodName × ByteArray × Nat × Option FieldType)} {cc : ByteArray} {own : String} {nL : Nat} {ini : Bool} {ret : Option FieldType} {pc n : Nat}
theorem s_GI {k index : Nat} {al : List Nat} {ref nm ds : String} {fin : Bool} (hd : decode cc pc = .ok (.getfield index, 3)) (hw : Cond.fieldLink own index ref nm ds ∈ lw_tbl) (hf : al.all (fun t => z_fb t k ref nm ds 0 fin) = true) : zSnd X S n0 mts cc own nL ini ret pc (aGI (pc + 3) k al) := by
  intro p l e R s m args below meth c hG d t0 s0 Q r kc cl lc st M h hk hc h1 h2 h3 h4 hE H locs ls a1 a2 a3 a4 a5 a6
  unfold aGI at h
  split at h
  · next a rest =>
    obtain ⟨g1, g2⟩ := z_gg_spec h
    obtain ⟨g, hg, hm⟩ := z_cls_spec g1
    have hfb := List.all_eq_true.mp hf _ hm
    refine z_getW (k := k) hG a1 hg hfb hw hd ?_
    have e : z_cell X S M g.1 a k = .int (zI M a k) := by unfold z_cell; rw [(z_fb_spec hfb).choose_spec.2.2.2.2.2.1]; first | done | rfl
    rw [e]
    exact (hk _ g2).1 H locs ls a1 a2 a3 a4 a5 a6
  · cases h
theorem s_GD {k index : Nat} {al : List Nat} {ref nm ds : String} {fin : Bool} (hd : decode cc pc = .ok (.getfield index, 3)) (hw : Cond.fieldLink own index ref nm ds ∈ lw_tbl) (hf : al.all (fun t => z_fb t k ref nm ds 2 fin) = true) : zSnd X S n0 mts cc own nL ini ret pc (aGD (pc + 3) k al) := by
  intro p l e R s m args below meth c hG d t0 s0 Q r kc cl lc st M h hk hc h1 h2 h3 h4 hE H locs ls a1 a2 a3 a4 a5 a6
  unfold aGD at h
  split at h
  · next a rest =>
    obtain ⟨g1, g2⟩ := z_gg_spec h
    obtain ⟨g, hg, hm⟩ := z_cls_spec g1
    have hfb := List.all_eq_true.mp hf _ hm
    refine z_getW (k := k) hG a1 hg hfb hw hd ?_
    have e : z_cell X S M g.1 a k = .double (zD M a k) := by unfold z_cell; rw [(z_fb_spec hfb).choose_spec.2.2.2.2.2.1]; first | done | rfl
    rw [e]
    exact (hk _ g2).1 H locs ls a1 a2 a3 a4 a5 a6
  · cases h
theorem s_GR {k index : Nat} {al : List Nat} {ref nm ds : String} {fin : Bool} (hd : decode cc pc = .ok (.getfield index, 3)) (hw : Cond.fieldLink own index ref nm ds ∈ lw_tbl) (hf : al.all (fun t => z_fb t k ref nm ds 1 fin) = true) : zSnd X S n0 mts cc own nL ini ret pc (aGR (pc + 3) k al) := by
  intro p l e R s m args below meth c hG d t0 s0 Q r kc cl lc st M h hk hc h1 h2 h3 h4 hE H locs ls a1 a2 a3 a4 a5 a6
  unfold aGR at h
  split at h
  · next a rest =>
    obtain ⟨g1, g2⟩ := z_gg_spec h
    obtain ⟨g, hg, hm⟩ := z_cls_spec g1
    have hfb := List.all_eq_true.mp hf _ hm
    refine z_getW (k := k) hG a1 hg hfb hw hd ?_
    have e : z_cell X S M g.1 a k = zE X (.ref (zP S M a k)) := by unfold z_cell; rw [(z_fb_spec hfb).choose_spec.2.2.2.2.2.1]; first | done | rfl
    rw [e]
    exact (hk _ g2).1 H locs ls a1 a2 a3 a4 a5 a6
  · cases h
end SN
theorem z_bit_iff {v : Int32} (h : v &&& 1 = v) : v = 0 ∨ v = 1 := by
  have h1 : v.toUInt32 &&& 1 = v.toUInt32 := congrArg Int32.toUInt32 h
  have h2 : (v.toUInt32 &&& 1).toNat = v.toUInt32.toNat := congrArg UInt32.toNat h1
  rw [UInt32.toNat_and] at h2
  have h3 : v.toUInt32.toNat &&& 1 = v.toUInt32.toNat % 2 := Nat.and_one_is_mod _
  have h4 : (1 : UInt32).toNat = 1 := rfl
  rw [h4, h3] at h2
  have h5 : v.toUInt32.toNat = 0 ∨ v.toUInt32.toNat = 1 := by omega
  obtain ⟨u⟩ := v
  rcases h5 with h5 | h5
  · exact Or.inl (congrArg Int32.ofUInt32 (UInt32.toNat_inj.mp (show u.toNat = (0 : UInt32).toNat from h5)))
  · exact Or.inr (congrArg Int32.ofUInt32 (UInt32.toNat_inj.mp (show u.toNat = (1 : UInt32).toNat from h5)))
theorem z_bit_fits {v : Int32} (h : v &&& 1 = v) : fits .boolean (.int v) = true := by
  rcases z_bit_iff h with rfl | rfl <;> decide
section SN
variable {X : zX} {S : zS} {n0 : Nat} {mts : List (MethodName × ByteArray × Nat × Option FieldType)} {cc : ByteArray} {own : String} {nL : Nat} {ini : Bool} {ret : Option FieldType} {pc n : Nat}
/-- may this field be written here -/
def z_fw (ini : Bool) (own : String) (t k : Nat) (fin : Bool) : Bool := !fin || (ini && match vwCl[t]? with
  | some q => decide ((q.2.1 k).1 = own)
  | none => false)
theorem z_fw_spec {t k : Nat} {fin : Bool} (h : z_fw ini own t k fin = true) : fin = false ∨ (ini = true ∧ ∀ q : vw_C, vwCl[t]? = some q → (q.2.1 k).1 = own) := by
  unfold z_fw at h
  rw [Bool.or_eq_true, Bool.and_eq_true] at h
  rcases h with h | ⟨h1, h2⟩
  · left; simpa using h
  · right
    refine ⟨h1, fun q hq => ?_⟩
    rw [hq] at h2
    exact of_decide_eq_true h2
theorem s_PI {k index : Nat} {al : List Nat} {ref nm : String} {fin : Bool} (hd : decode cc pc = .ok (.putfield index, 3)) (hw : Cond.fieldLink own index ref nm "I" ∈ lw_tbl) (hf : al.all (fun t => z_fb t k ref nm "I" 0 fin && z_fw ini own t k fin) = true) : zSnd X S n0 mts cc own nL ini ret pc (aPI (pc + 3) k al) := by
  intro p l e R s m args below meth c hG d t0 s0 Q r kc cl lc st M h hk hc h1 h2 h3 h4 hE H locs ls a1 a2 a3 a4 a5 a6
  unfold aPI at h
  split at h
  · next v a rest =>
    obtain ⟨g1, g2⟩ := z_gg_spec h
    obtain ⟨g, hg, hm⟩ := z_cls_spec g1
    have hfb := List.all_eq_true.mp hf _ hm
    rw [Bool.and_eq_true] at hfb
    obtain ⟨q, f1, f2, f3, f4, f5, f6, -⟩ := z_fb_spec hfb.1
    have hp := (zRep.obj a1 f2 hg)
    refine z_putW (k := k) (v := .int v) hG a1 hg hfb.1 hw hd (ty := .int) (by decide) rfl rfl (z_fw_spec hfb.2) (fun H' sl b1 b2 b3 => ?_)
    have hbs : X.2.1 ≤ X.1 a := a1.base hG.2.2.2.2.2.2.1 hp.1 hg (Or.inl (by omega))
    refine (hk _ g2).1 H' _ ls (a1.upd hG.2.2.2.2.2.2.1 rfl hp.1 (fun b j hb => by rw [zq_zI_wI, if_neg (fun z => hb z.1)]) (fun _ _ _ => rfl) (fun _ _ _ => rfl) b1 b2 (fun h0 hh => ?_)) a2 (fun x hx => ?_) (fun x hx => ?_) a5 a6
    · cases hg.symm.trans hh
      refine Or.inl ⟨f2, b3.to (fun j _ => ?_), hp.2.2⟩
      unfold updV
      by_cases hj : j = k
      · subst hj
        rw [if_pos rfl]
        unfold z_cell
        rw [f6]
        show Value.int v = .int (zI (z_wI M a j v) a j)
        rw [zq_zI_wI, if_pos ⟨rfl, rfl⟩]
      · rw [if_neg hj]
        exact (z_cell_of (M := M) (M' := z_wI M a k v) (a := a) (k := j) (by rw [zq_zI_wI, if_neg (fun z => hj z.2)]) rfl rfl).symm
    · rcases List.mem_append.mp hx with hx | hx
      · exact a3 x hx
      · rw [List.mem_singleton] at hx; subst hx; exact hbs
    · rw [b2 x (fun z => Nat.not_le.mpr hx (z ▸ hbs))]; exact a4 x hx
  · cases h
theorem s_PZ {k index : Nat} {al : List Nat} {ref nm : String} {fin : Bool} (hd : decode cc pc = .ok (.putfield index, 3)) (hw : Cond.fieldLink own index ref nm "Z" ∈ lw_tbl) (hf : al.all (fun t => z_fb t k ref nm "Z" 0 fin && z_fw ini own t k fin) = true) : zSnd X S n0 mts cc own nL ini ret pc (aPZ (pc + 3) k al) := by
  intro p l e R s m args below meth c hG d t0 s0 Q r kc cl lc st M h hk hc h1 h2 h3 h4 hE H locs ls a1 a2 a3 a4 a5 a6
  unfold aPZ at h
  split at h
  · next v a rest =>
    obtain ⟨g0, g2⟩ := z_gg_spec h
    rw [Bool.and_eq_true] at g0
    have gb := of_decide_eq_true g0.1
    obtain ⟨g, hg, hm⟩ := z_cls_spec g0.2
    have hfb := List.all_eq_true.mp hf _ hm
    rw [Bool.and_eq_true] at hfb
    obtain ⟨q, f1, f2, f3, f4, f5, f6, -⟩ := z_fb_spec hfb.1
    have hp := (zRep.obj a1 f2 hg)
    refine z_putW (k := k) (v := .int v) hG a1 hg hfb.1 hw hd (ty := .boolean) (by decide) (by show Value.int (v &&& 1) = .int v; rw [gb]) (z_bit_fits gb) (z_fw_spec hfb.2) (fun H' sl b1 b2 b3 => ?_)
    have hbs : X.2.1 ≤ X.1 a := a1.base hG.2.2.2.2.2.2.1 hp.1 hg (Or.inl (by omega))
    refine (hk _ g2).1 H' _ ls (a1.upd hG.2.2.2.2.2.2.1 rfl hp.1 (fun b j hb => by rw [zq_zI_wI, if_neg (fun z => hb z.1)]) (fun _ _ _ => rfl) (fun _ _ _ => rfl) b1 b2 (fun h0 hh => ?_)) a2 (fun x hx => ?_) (fun x hx => ?_) a5 a6
    · cases hg.symm.trans hh
      refine Or.inl ⟨f2, b3.to (fun j _ => ?_), hp.2.2⟩
      unfold updV
      by_cases hj : j = k
      · subst hj
        rw [if_pos rfl]
        unfold z_cell
        rw [f6]
        show Value.int v = .int (zI (z_wI M a j v) a j)
        rw [zq_zI_wI, if_pos ⟨rfl, rfl⟩]
      · rw [if_neg hj]
        exact (z_cell_of (M := M) (M' := z_wI M a k v) (a := a) (k := j) (by rw [zq_zI_wI, if_neg (fun z => hj z.2)]) rfl rfl).symm
    · rcases List.mem_append.mp hx with hx | hx
      · exact a3 x hx
      · rw [List.mem_singleton] at hx; subst hx; exact hbs
    · rw [b2 x (fun z => Nat.not_le.mpr hx (z ▸ hbs))]; exact a4 x hx
  · cases h
theorem s_PD {k index : Nat} {al : List Nat} {ref nm : String} {fin : Bool} (hd : decode cc pc = .ok (.putfield index, 3)) (hw : Cond.fieldLink own index ref nm "D" ∈ lw_tbl) (hf : al.all (fun t => z_fb t k ref nm "D" 2 fin && z_fw ini own t k fin) = true) : zSnd X S n0 mts cc own nL ini ret pc (aPD (pc + 3) k al) := by
  intro p l e R s m args below meth c hG d t0 s0 Q r kc cl lc st M h hk hc h1 h2 h3 h4 hE H locs ls a1 a2 a3 a4 a5 a6
  unfold aPD at h
  split at h
  · next v a rest =>
    obtain ⟨g1, g2⟩ := z_gg_spec h
    obtain ⟨g, hg, hm⟩ := z_cls_spec g1
    have hfb := List.all_eq_true.mp hf _ hm
    rw [Bool.and_eq_true] at hfb
    obtain ⟨q, f1, f2, f3, f4, f5, f6, -⟩ := z_fb_spec hfb.1
    have hp := (zRep.obj a1 f2 hg)
    refine z_putW (k := k) (v := .double v) hG a1 hg hfb.1 hw hd (ty := .double) (by decide) rfl rfl (z_fw_spec hfb.2) (fun H' sl b1 b2 b3 => ?_)
    have hbs : X.2.1 ≤ X.1 a := a1.base hG.2.2.2.2.2.2.1 hp.1 hg (Or.inl (by omega))
    refine (hk _ g2).1 H' _ ls (a1.upd hG.2.2.2.2.2.2.1 rfl hp.1 (fun _ _ _ => rfl) (fun _ _ _ => rfl) (fun b j hb => by rw [zq_zD_wD, if_neg (fun z => hb z.1)]) b1 b2 (fun h0 hh => ?_)) a2 (fun x hx => ?_) (fun x hx => ?_) a5 a6
    · cases hg.symm.trans hh
      refine Or.inl ⟨f2, b3.to (fun j _ => ?_), hp.2.2⟩
      unfold updV
      by_cases hj : j = k
      · subst hj
        rw [if_pos rfl]
        unfold z_cell
        rw [f6]
        show Value.double v = .double (zD (z_wD M a j v) a j)
        rw [zq_zD_wD, if_pos ⟨rfl, rfl⟩]
      · rw [if_neg hj]
        exact (z_cell_of (M := M) (M' := z_wD M a k v) (a := a) (k := j) rfl rfl (by rw [zq_zD_wD, if_neg (fun z => hj z.2)])).symm
    · rcases List.mem_append.mp hx with hx | hx
      · exact a3 x hx
      · rw [List.mem_singleton] at hx; subst hx; exact hbs
    · rw [b2 x (fun z => Nat.not_le.mpr hx (z ▸ hbs))]; exact a4 x hx
  · cases h
def z_rty : FieldType → Bool
  | .object _ => true
  | .array _ => true
  | _ => false
theorem z_rty_fit {X : zX} {ty : FieldType} (h : z_rty ty = true) (a : Nat) : narrow ty (zE X (.ref a)) = zE X (.ref a) ∧ fits ty (zE X (.ref a)) = true := by
  cases ty <;> first | (cases h; done) | (cases a <;> exact ⟨rfl, rfl⟩)
theorem s_PR {k index : Nat} {al : List Nat} {ref nm ds : String} {fin : Bool} {ty : FieldType} (hd : decode cc pc = .ok (.putfield index, 3)) (hw : Cond.fieldLink own index ref nm ds ∈ lw_tbl) (hty : parseFieldDescriptor ds = some ty) (hr : z_rty ty = true) (hf : al.all (fun t => z_fb t k ref nm ds 1 fin && z_fw ini own t k fin) = true) : zSnd X S n0 mts cc own nL ini ret pc (aPR (pc + 3) k al) := by
  intro p l e R s m args below meth c hG d t0 s0 Q r kc cl lc st M h hk hc h1 h2 h3 h4 hE H locs ls a1 a2 a3 a4 a5 a6
  unfold aPR at h
  split at h
  · next v a rest =>
    obtain ⟨g0, g2⟩ := z_gg_spec h
    rw [Bool.and_eq_true] at g0
    have gf := g0.1
    obtain ⟨g, hg, hm⟩ := z_cls_spec g0.2
    have hfb := List.all_eq_true.mp hf _ hm
    rw [Bool.and_eq_true] at hfb
    obtain ⟨q, f1, f2, f3, f4, f5, f6, -⟩ := z_fb_spec hfb.1
    have hp := (zRep.obj a1 f2 hg)
    refine z_putW (k := k) (v := zE X (.ref v)) hG a1 hg hfb.1 hw hd (ty := ty) hty (z_rty_fit hr v).1 (z_rty_fit hr v).2 (z_fw_spec hfb.2) (fun H' sl b1 b2 b3 => ?_)
    have hbs : X.2.1 ≤ X.1 a := a1.base hG.2.2.2.2.2.2.1 hp.1 hg (Or.inl (by omega))
    refine (hk _ g2).1 H' _ ls (a1.upd hG.2.2.2.2.2.2.1 rfl hp.1 (fun _ _ _ => rfl) (fun b j hb => by rw [zq_zP_wP S M a k v gf, if_neg (fun z => hb z.1)]) (fun _ _ _ => rfl) b1 b2 (fun h0 hh => ?_)) a2 (fun x hx => ?_) (fun x hx => ?_) a5 a6
    · cases hg.symm.trans hh
      refine Or.inl ⟨f2, b3.to (fun j _ => ?_), hp.2.2⟩
      unfold updV
      by_cases hj : j = k
      · subst hj
        rw [if_pos rfl]
        unfold z_cell
        rw [f6]
        show zE X (.ref v) = zE X (.ref (zP S (z_wP M a j v) a j))
        rw [zq_zP_wP S M a j v gf, if_pos ⟨rfl, rfl⟩]
      · rw [if_neg hj]
        exact (z_cell_of (M := M) (M' := z_wP M a k v) (a := a) (k := j) rfl (by rw [zq_zP_wP S M a k v gf, if_neg (fun z => hj z.2)]) rfl).symm
    · rcases List.mem_append.mp hx with hx | hx
      · exact a3 x hx
      · rw [List.mem_singleton] at hx; subst hx; exact hbs
    · rw [b2 x (fun z => Nat.not_le.mpr hx (z ▸ hbs))]; exact a4 x hx
  · cases h
end SN
