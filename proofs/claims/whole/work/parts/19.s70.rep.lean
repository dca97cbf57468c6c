/-! THE SMALL MACHINE IN THE REAL ONE: what a heap holds of a memory -/
abbrev zX : Type := (Nat → Nat) × Nat × (Nat → ClassId) × (Nat → Nat → Nat) × (Nat → ClassId)
def zE (X : zX) (v : Value) : Value := match v with
  | .ref 0 => .null
  | .ref (a + 1) => .ref (X.1 (a + 1))
  | v => v
def z_fks : List (List Nat) := [[0, 0, 0, 0, 0], [0, 0, 0, 0, 0], [0, 0, 0, 0, 0, 1, 0], [0, 0, 0, 0, 0], [1, 1, 1, 1, 1, 1, 1, 1, 1, 1, 0, 0, 0, 0, 0, 0, 1], [0, 0, 0, 0, 0], [0, 0, 0, 0, 0], [0, 0, 0, 0, 0], [1, 0], [0, 0, 0, 0, 1, 0, 0], [1, 1, 1, 0, 0, 0, 0, 0], [0, 0, 1, 1, 0, 1, 1, 1, 1, 1, 1, 1, 1, 0, 0, 1, 1, 1, 1, 1, 1, 1, 2, 0, 1, 1, 1, 0, 1, 1, 1, 1, 1, 1, 1, 0, 0, 0, 1, 1, 1, 0, 0, 0, 0, 0, 0, 0, 0, 0, 0, 0, 0, 1, 1, 1, 1, 1, 0, 1, 0, 1, 0, 0, 1, 0, 1, 1]]
def z_fk (t k : Nat) : Nat := match z_nth z_fks t with
  | some l => (match z_nth l k with | some x => x | none => 0)
  | none => 0
def z_ty (t : Nat) : FieldType := match t with
  | 12 => .byte
  | 13 => .double
  | 14 => .int
  | 15 => .boolean
  | 16 => .object "RollPlayer$Instrument"
  | 17 => .object "RollPlayer$Roll"
  | 18 => .object "RollPlayer$Strip"
  | _ => .array .int
def z_cn (t : Nat) : String := match t with
  | 16 => "RollPlayer$Instrument"
  | 17 => "RollPlayer$Roll"
  | 18 => "RollPlayer$Strip"
  | _ => "[I"
def z_cell (X : zX) (S : zS) (M : zM) (t a k : Nat) : Value := match z_fk t k with
  | 0 => .int (zI M a k)
  | 1 => zE X (.ref (zP S M a k))
  | _ => .double (zD M a k)
def z_elem (X : zX) (S : zS) (M : zM) (t a j : Nat) : Value := if t = 13 then .double (zD M a j) else if 16 ≤ t then zE X (.ref (zP S M a j)) else .int (zI M a j)
def z_okc (X : zX) (S : zS) (M : zM) (a : Nat) (h : Nat × Nat) (H : Heap) : Prop :=
  (h.1 < 12 ∧ t_OB (X.1 a) (X.2.2.1 h.1) h.2 (X.2.2.2.1 h.1) H (z_cell X S M h.1 a) ∧ (∃ q : vw_C, vwCl[h.1]? = some q ∧ q.2.2 = h.2)) ∨
  (12 ≤ h.1 ∧ h.1 < 20 ∧ H[X.1 a]? = some (arrV (X.2.2.2.2 h.1) h.2 (z_elem X S M h.1 a)) ∧ (h.1 = 12 → ∀ j, fits .byte (.int (zI M a j)) = true)) ∨
  (h.1 = 20 ∧ ∃ scr : Cell, H[X.1 a]? = some scr ∧ scr.cls = X.2.2.2.2 20 ∧ (∀ k, scr.vm ≠ .statics k) ∧ scr.vm ≠ .unknown ∧ scr.slots.size = h.2 ∧ ∀ j, j < h.2 → scr.slots[j]? = some (.int (zI M a j)))
def z_tl (S : zS) (M : zM) : Nat := S.1 + M.1.length
def z_sum : List (Nat × Nat) → Nat
  | [] => 0
  | h :: r => h.2 + z_sum r
/-- room counted from a million on, shut: so that a memory may begin with less than what stands -/
noncomputable def zz_off : {n : Nat // n = 1000000} := Classical.choice ⟨⟨_, rfl⟩⟩
noncomputable def z_ss (M : zM) : Nat := z_sum M.1 + zz_off.1
def zRep (X : zX) (S : zS) (n0 : Nat) (M : zM) (H : Heap) : Prop := H.size = X.1 (z_tl S M) ∧ n0 ≤ z_tl S M ∧ (∀ a h, 0 < a → z_hd S M a = some h → z_okc X S M a h H) ∧ (∀ h, z_hd S M 56 = some h → h.1 = 20 ∨ X.2.1 ≤ X.1 56) ∧ (∀ h, z_hd S M 0 = some h → h.1 = 99)
def zXok (X : zX) (n0 : Nat) : Prop := (∀ a b, 0 < a → 0 < b → X.1 a = X.1 b → a = b) ∧ (∀ n, n0 ≤ n → X.1 (n + 1) = X.1 n + 1) ∧ (∀ a, 0 < a → a ≠ 56 → X.2.1 ≤ X.1 a) ∧ 0 < n0 ∧ (56 < n0 ∨ X.2.1 ≤ X.1 56)
def zSok (S : zS) : Prop := ∀ a k, S.1 ≤ a → S.2.2 a k = none
/-- what the tables say -/
def z_nc : List String := ["RollPlayer$Bass", "RollPlayer$Bell", "RollPlayer$Drum", "RollPlayer$Pipe", "RollPlayer$Plucked", "RollPlayer$Reed"]
def zWd (U : State) : Prop := (∀ w ∈ lw_tbl, w.before #[] U = true) ∧ ∀ C ∈ z_nc, va_Nc C "RollPlayer$Coupler" U
def zK (X : zX) (U : State) : Prop := ((∀ (c : Nat) (q : vw_C), vwCl[c]? = some q → u_Kn U q.1 q.2.1 q.2.2 (X.2.2.1 c) (X.2.2.2.1 c)) ∧
  ∀ t, 12 ≤ t → t < 20 → ArrOfT U (X.2.2.2.2 t) (z_ty t) ∧ U.vm.findClass ("[" ++ (z_ty t).toString) = some (X.2.2.2.2 t) ∧ ∃ (kA : Class) (comp : ClassId), U.vm.classes[X.2.2.2.2 t]? = some kA ∧ kA.kind = .array comp (z_ty t) ∧ (16 ≤ t → U.vm.findClass (z_cn t) = some comp ∧ ∃ kc : Class, U.vm.classes[comp]? = some kc)) ∧ ArrOfT U (X.2.2.2.2 20) .int
theorem zK.moved {X : zX} {u U : State} (hvm : u.vm.Alike U.vm) (h : zK X u) : zK X U := by
  refine ⟨⟨fun c q hq => u_Kn_moved hvm (h.1.1 c q hq), fun t h1 h2 => ?_⟩, arrOfT_moved hvm h.2⟩
  obtain ⟨a, b, kA, comp, e1, e2, e3⟩ := h.1.2 t h1 h2
  obtain ⟨k', hk', he⟩ := hvm.2.2 _ _ e1
  refine ⟨arrOfT_moved hvm a, by rw [hvm.findClass]; exact b, k', comp, hk', by rw [he]; exact e2, fun h16 => ?_⟩
  obtain ⟨f1, kc, f2⟩ := e3 h16
  obtain ⟨kc', hkc', -⟩ := hvm.2.2 _ _ f2
  exact ⟨by rw [hvm.findClass]; exact f1, kc', hkc'⟩
/-- the words: said of any arguments, and kept as the tables warm -/
def z_wk : Cond → Bool
  | .arrayClass _ => true
  | .arrayOver _ => true
  | w => w.onTables
theorem z_wk_use {w : Cond} (h : z_wk w = true) {A A' : Array Value} {U : State} (hb : w.before A U = true) : w.before A' U = true := by
  by_cases ho : w.onTables = true
  · exact va_tabs ho rfl hb
  · cases w <;> first | exact hb | exact absurd h ho
theorem zAO.moved {t : FieldType} {u U : State} (hvm : u.vm.Alike U.vm) (h : (Cond.arrayOver (.array t)).before #[] u = true) : (Cond.arrayOver (.array t)).before #[] U = true := by
  obtain ⟨comp, c, k, h1, h2, h3, h4, h5⟩ := arrayOverA_spec h
  obtain ⟨k', hk', he⟩ := hvm.2.2 _ _ h3
  have hi : (U.vm.classes.findIdx? fun (x : Class) => match x.kind with | .array component _ => component == comp | _ => false) = some c := (hvm.findIdx?_eq _ (fun _ => rfl)).trans h2
  have hkind : k'.kind = .array comp (.array t) := by rw [he]; exact h4
  have f1 : U.vm.findClass (FieldType.array t).toString = some comp := by rw [hvm.findClass]; exact h1
  have f2 : U.vm.findClass ("[" ++ (FieldType.array t).toString) = some c := by rw [hvm.findClass]; exact h5
  unfold Cond.before Cond.holds
  simp only [Cond.value]
  rw [f1, Option.bind_some]
  refine (congrArg (fun o : Option Nat => (o.bind (fun c => (U.vm.classes[c]?).map fun (k : Class) => match k.kind with | .array _ ty => decide (ty = FieldType.array t) && decide (U.vm.findClass ("[" ++ (FieldType.array t).toString) = some c) | _ => false) == some true)) hi).trans ?_
  simp [hk', hkind, f2]
def z_wm : Cond → Bool
  | .castable .. => true
  | .declares _ => true
  | .privateMethod _ => true
  | .methodLinkNest .. => true
  | .arrayOver (.object _) => true
  | .arrayOver (.array _) => true
  | w => goodWord w
theorem z_wm_use {w : Cond} (h : z_wm w = true) {s U : State} (hW : s.WarmedH U.vm) (hb : w.before #[] s = true) : w.before #[] U = true := by
  by_cases hg : goodWord w = true
  · exact word_at hW (good_of_word hg) hb
  · cases w with
    | castable C T => exact va_Nw.warmC hW hb
    | declares x => exact va_Nw.warmD hW hb
    | privateMethod x => exact va_tabs rfl (rfl : (s.setVm U.vm).vm = U.vm) (by rw [Cond.privateMethod_setVm hW.alike]; exact hb)
    | methodLinkNest a i x q => exact va_Nw.warmM hW hb
    | arrayOver t =>
      cases t with
      | object C => exact va_AO.moved hW.alike hb
      | array t => exact zAO.moved hW.alike hb
      | _ => exact absurd h hg
    | _ => exact absurd h hg
theorem z_tbl_wk : lw_tbl.all z_wk = true := by decide +kernel
theorem z_tbl_wm : lw_tbl.all z_wm = true := by decide +kernel
theorem zWd.use {U : State} (h : zWd U) {w : Cond} (hw : w ∈ lw_tbl) (A : Array Value) : w.before A U = true := z_wk_use (List.all_eq_true.mp z_tbl_wk w hw) (h.1 w hw)
theorem zWd.warm {s U : State} (hW : s.WarmedH U.vm) (h : zWd s) : zWd U := ⟨fun w hw => z_wm_use (List.all_eq_true.mp z_tbl_wm w hw) hW (h.1 w hw), fun C hC => va_Nc.moved hW.alike (h.2 C hC)⟩
theorem zWd.all {U : State} (h : zWd U) (A : Array Value) : ∀ w ∈ lw_tbl, w.before A U = true := fun _ hw => h.use hw A
