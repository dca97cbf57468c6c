/-! THE TOP: what the tables' words say at the start -/
theorem z_inst : ∀ (c : Nat) (q : vw_C), vwCl[c]? = some q → Cond.instantiable q.1 q.2.2 ∈ lw_tbl
  | 0, q, h => by cases h; decide +kernel
  | 1, q, h => by cases h; decide +kernel
  | 2, q, h => by cases h; decide +kernel
  | 3, q, h => by cases h; decide +kernel
  | 4, q, h => by cases h; decide +kernel
  | 5, q, h => by cases h; decide +kernel
  | 6, q, h => by cases h; decide +kernel
  | 7, q, h => by cases h; decide +kernel
  | 8, q, h => by cases h; decide +kernel
  | 9, q, h => by cases h; decide +kernel
  | 10, q, h => by cases h; decide +kernel
  | 11, q, h => by cases h; decide +kernel
  | c + 12, q, h => by simp [vwCl] at h
def z_kA (s : State) (t : Nat) (cA : ClassId) : Prop := ArrOfT s cA (z_ty t) ∧ s.vm.findClass ("[" ++ (z_ty t).toString) = some cA ∧ ∃ (kA : Class) (comp : ClassId), s.vm.classes[cA]? = some kA ∧ kA.kind = .array comp (z_ty t) ∧ (16 ≤ t → s.vm.findClass (z_cn t) = some comp ∧ ∃ kc : Class, s.vm.classes[comp]? = some kc)
theorem z_kA1 {args : Array Value} {s : State} {t : Nat} (h : t < 16) (hw : (Cond.arrayClass (z_ty t)).before args s = true) : ∃ cA, z_kA s t cA := by
  obtain ⟨c, k, comp, h1, h2, h3⟩ := Cond.arrayClass_spec hw
  exact ⟨c, fun n z => ⟨(fun k h => by cases h), k, h2, comp, h3⟩, h1, k, comp, h2, h3, fun h16 => absurd h16 (by omega)⟩
theorem z_kA2 {args : Array Value} {s : State} {t : Nat} {C : String} (ht : z_ty t = .object C) (hc : z_cn t = C) (hw : (Cond.arrayOver (.object C)).before args s = true) : ∃ cA, z_kA s t cA := by
  obtain ⟨comp, c, k, h1, -, h3, h4, h5⟩ := Cond.arrayOver_spec hw
  refine ⟨c, ?_⟩
  unfold z_kA
  rw [ht, hc]
  exact ⟨fun n z => ⟨(fun k h => by cases h), k, h3, comp, h4⟩, h5, k, comp, h3, h4, fun _ => ⟨h1, Vm.classAt_of_findClass h1⟩⟩
theorem z_kA3 {args : Array Value} {s : State} (hw : (Cond.arrayOver (.array .int)).before args s = true) : ∃ cA, z_kA s 19 cA := by
  obtain ⟨comp, c, k, h1, -, h3, h4, h5⟩ := arrayOverA_spec hw
  exact ⟨c, fun n z => ⟨(fun k h => by cases h), k, h3, comp, h4⟩, h5, k, comp, h3, h4, fun _ => ⟨h1, Vm.classAt_of_findClass h1⟩⟩
theorem z_kA_all {args : Array Value} {s : State} (hts : ∀ w ∈ lw_tbl, w.before args s = true) {t : Nat} (h1 : 12 ≤ t) (h2 : t < 20) : ∃ cA, z_kA s t cA := by
  rcases (show t = 12 ∨ t = 13 ∨ t = 14 ∨ t = 15 ∨ t = 16 ∨ t = 17 ∨ t = 18 ∨ t = 19 by omega) with rfl | rfl | rfl | rfl | rfl | rfl | rfl | rfl
  · exact z_kA1 (by omega) (hts (.arrayClass .byte) (by decide +kernel))
  · exact z_kA1 (by omega) (hts (.arrayClass .double) (by decide +kernel))
  · exact z_kA1 (by omega) (hts (.arrayClass .int) (by decide +kernel))
  · exact z_kA1 (by omega) (hts (.arrayClass .boolean) (by decide +kernel))
  · exact z_kA2 (C := "RollPlayer$Instrument") rfl rfl (hts _ (by decide +kernel))
  · exact z_kA2 (C := "RollPlayer$Roll") rfl rfl (hts _ (by decide +kernel))
  · exact z_kA2 (C := "RollPlayer$Strip") rfl rfl (hts _ (by decide +kernel))
  · exact z_kA3 (hts _ (by decide +kernel))
theorem t_K {args : Array Value} {s : State} (hts : ∀ w ∈ lw_tbl, w.before args s = true) {scr : Cell} (hscr : s.isArrayOf scr .int) : ∃ D : zDt, D.2.2 20 = scr.cls ∧ ∀ (f : Nat → Nat) (base : Nat), zK (f, base, D) s := by
  have hc : ∀ c : Nat, ∃ w : ClassId × (Nat → Nat), ∀ q : vw_C, vwCl[c]? = some q → u_Kn s q.1 q.2.1 q.2.2 w.1 w.2 := by
    intro c
    cases hq : vwCl[c]? with
    | none => exact ⟨(scr.cls, fun _ => 0), fun q h => by cases h⟩
    | some q =>
      obtain ⟨cC, iS, h⟩ := u_known hts (z_facts c q hq).1 (hts _ (z_inst c q hq))
      exact ⟨(cC, iS), fun q' h' => by cases h'; exact h⟩
  have ha : ∀ t : Nat, ∃ cA : ClassId, (12 ≤ t → t < 20 → z_kA s t cA) ∧ (t = 20 → cA = scr.cls) := by
    intro t
    by_cases h : 12 ≤ t ∧ t < 20
    · obtain ⟨cA, hA⟩ := z_kA_all hts h.1 h.2
      exact ⟨cA, fun _ _ => hA, fun h20 => by omega⟩
    · exact ⟨scr.cls, fun h1 h2 => absurd ⟨h1, h2⟩ h, fun _ => rfl⟩
  have e20 := (Classical.choose_spec (ha 20)).2 rfl
  refine ⟨(fun c => (Classical.choose (hc c)).1, fun c => (Classical.choose (hc c)).2, fun t => Classical.choose (ha t)), e20, fun f base => ⟨⟨fun c q hq => Classical.choose_spec (hc c) q hq, fun t h1 h2 => (Classical.choose_spec (ha t)).1 h1 h2⟩, ?_⟩⟩
  show ArrOfT s (Classical.choose (ha 20)) .int
  rw [e20]
  obtain ⟨-, k, hk, comp, hkind⟩ := hscr
  exact fun n z => ⟨(fun k h => by cases h), k, hk, comp, hkind⟩
theorem t_nc : ∀ C ∈ z_nc, Cond.not (.castable C "RollPlayer$Coupler") ∈ flatC (Jvm.Cond.and given_1 narrow_1) := by decide +kernel
theorem t_Wd {args : Array Value} {s : State} (hts : ∀ w ∈ lw_tbl, w.before args s = true) (hg : (Jvm.Cond.and given_1 narrow_1).before args s = true) : zWd s :=
  ⟨fun w hw => z_wk_use (List.all_eq_true.mp z_tbl_wk w hw) (hts w hw), fun C hC => va_Nc.of (flat_of_before _ hg _ (t_nc C hC))⟩
