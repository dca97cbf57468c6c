/-! cells are only ever added -/
def z_gr (S : zS) (M M' : zM) : Prop := z_tl S M ≤ z_tl S M' ∧ z_ss M ≤ z_ss M'
def z_mo (S : zS) (M : zM) (o : zO) : Prop := match o with
  | none => True
  | some (_, .inl b) => (∀ x ∈ b.1, z_gr S M x.2.2.2.2) ∧ z_gr S M b.2.2.2.2
  | some (_, .inr (.inl x)) => z_gr S M x.2.2.2.2.2.2
  | some (_, .inr (.inr r)) => z_gr S M r.2
theorem z_gr_rf {S : zS} {M M' : zM} (h : M'.1 = M.1) : z_gr S M M' := ⟨by unfold z_tl; rw [h]; exact Nat.le_refl _, by unfold z_ss; rw [h]; exact Nat.le_refl _⟩
theorem z_gr_nw (S : zS) (M : zM) (h : Nat × Nat) : z_gr S M (z_nw S M h) := ⟨by rw [z_tl_nw]; omega, by rw [z_ss_nw]; omega⟩
theorem z_mo_go {S : zS} {M : zM} {F : zF} (h : z_gr S M F.2.2.2) : z_mo S M (z_go F) := ⟨(fun x hx => by cases hx), h⟩
theorem z_mo_gg {S : zS} {M : zM} {F : zF} {g : Bool} (h : z_gr S M F.2.2.2) : z_mo S M (z_gg g F) := ⟨(fun x hx => by cases hx), h⟩
theorem z_mo_br {S : zS} {M : zM} {F1 F2 : zF} {b : Bool} (h1 : z_gr S M F1.2.2.2) (h2 : z_gr S M F2.2.2.2) : z_mo S M (z_br b F1 F2) := ⟨fun x hx => by rw [List.mem_singleton] at hx; subst hx; exact h1, h2⟩
theorem z_mo_cl {S : zS} {M : zM} {F : zF} {g : Bool} {ty mi : Nat} {as : List Value} (h : z_gr S M F.2.2.2) : z_mo S M (z_cl g ty mi as F) := h
theorem z_mo_rt {S : zS} {M M' : zM} {v : Option Value} (h : z_gr S M M') : z_mo S M (z_rt v M') := h
theorem z_mo_sw {S : zS} {M : zM} {x : Int32} {lc : List (Option Value)} {r : List Value} : ∀ (l : List (Int32 × Nat)), ∀ y ∈ z_sw x lc r M l, z_gr S M y.2.2.2.2
  | [], y, hy => by cases hy
  | q :: rest, y, hy => by
    unfold z_sw at hy
    rcases List.mem_cons.mp hy with rfl | hy
    · exact z_gr_rf rfl
    · exact z_mo_sw rest y hy
def zMon (act : zA) : Prop := ∀ S lc st M, z_mo S M (act S lc st M)
theorem m_aCI (n : Nat) (v : Int32) : zMon (aCI n v) := by
  intro S lc st M
  unfold aCI
  first | (split <;> first | exact trivial | exact z_mo_go (z_gr_rf rfl) | exact z_mo_gg (z_gr_rf rfl) | exact z_mo_br (z_gr_rf rfl) (z_gr_rf rfl) | exact z_mo_cl (z_gr_rf rfl) | exact z_mo_rt (z_gr_rf rfl) | exact z_mo_go (z_gr_nw _ _ _) | exact z_mo_gg (z_gr_nw _ _ _) | exact (z_gr_rf rfl : z_gr _ _ _)) | first | exact trivial | exact z_mo_go (z_gr_rf rfl) | exact z_mo_gg (z_gr_rf rfl) | exact z_mo_br (z_gr_rf rfl) (z_gr_rf rfl) | exact z_mo_cl (z_gr_rf rfl) | exact z_mo_rt (z_gr_rf rfl) | exact z_mo_go (z_gr_nw _ _ _) | exact z_mo_gg (z_gr_nw _ _ _) | exact (z_gr_rf rfl : z_gr _ _ _)
theorem m_aCJ (n : Nat) (v : Int64) : zMon (aCJ n v) := by
  intro S lc st M
  unfold aCJ
  first | (split <;> first | exact trivial | exact z_mo_go (z_gr_rf rfl) | exact z_mo_gg (z_gr_rf rfl) | exact z_mo_br (z_gr_rf rfl) (z_gr_rf rfl) | exact z_mo_cl (z_gr_rf rfl) | exact z_mo_rt (z_gr_rf rfl) | exact z_mo_go (z_gr_nw _ _ _) | exact z_mo_gg (z_gr_nw _ _ _) | exact (z_gr_rf rfl : z_gr _ _ _)) | first | exact trivial | exact z_mo_go (z_gr_rf rfl) | exact z_mo_gg (z_gr_rf rfl) | exact z_mo_br (z_gr_rf rfl) (z_gr_rf rfl) | exact z_mo_cl (z_gr_rf rfl) | exact z_mo_rt (z_gr_rf rfl) | exact z_mo_go (z_gr_nw _ _ _) | exact z_mo_gg (z_gr_nw _ _ _) | exact (z_gr_rf rfl : z_gr _ _ _)
theorem m_aCD (n : Nat) (v : UInt64) : zMon (aCD n v) := by
  intro S lc st M
  unfold aCD
  first | (split <;> first | exact trivial | exact z_mo_go (z_gr_rf rfl) | exact z_mo_gg (z_gr_rf rfl) | exact z_mo_br (z_gr_rf rfl) (z_gr_rf rfl) | exact z_mo_cl (z_gr_rf rfl) | exact z_mo_rt (z_gr_rf rfl) | exact z_mo_go (z_gr_nw _ _ _) | exact z_mo_gg (z_gr_nw _ _ _) | exact (z_gr_rf rfl : z_gr _ _ _)) | first | exact trivial | exact z_mo_go (z_gr_rf rfl) | exact z_mo_gg (z_gr_rf rfl) | exact z_mo_br (z_gr_rf rfl) (z_gr_rf rfl) | exact z_mo_cl (z_gr_rf rfl) | exact z_mo_rt (z_gr_rf rfl) | exact z_mo_go (z_gr_nw _ _ _) | exact z_mo_gg (z_gr_nw _ _ _) | exact (z_gr_rf rfl : z_gr _ _ _)
theorem m_aNull (n : Nat) : zMon (aNull n) := by
  intro S lc st M
  unfold aNull
  first | (split <;> first | exact trivial | exact z_mo_go (z_gr_rf rfl) | exact z_mo_gg (z_gr_rf rfl) | exact z_mo_br (z_gr_rf rfl) (z_gr_rf rfl) | exact z_mo_cl (z_gr_rf rfl) | exact z_mo_rt (z_gr_rf rfl) | exact z_mo_go (z_gr_nw _ _ _) | exact z_mo_gg (z_gr_nw _ _ _) | exact (z_gr_rf rfl : z_gr _ _ _)) | first | exact trivial | exact z_mo_go (z_gr_rf rfl) | exact z_mo_gg (z_gr_rf rfl) | exact z_mo_br (z_gr_rf rfl) (z_gr_rf rfl) | exact z_mo_cl (z_gr_rf rfl) | exact z_mo_rt (z_gr_rf rfl) | exact z_mo_go (z_gr_nw _ _ _) | exact z_mo_gg (z_gr_nw _ _ _) | exact (z_gr_rf rfl : z_gr _ _ _)
theorem m_aLI (n i : Nat) : zMon (aLI n i) := by
  intro S lc st M
  unfold aLI
  first | (split <;> first | exact trivial | exact z_mo_go (z_gr_rf rfl) | exact z_mo_gg (z_gr_rf rfl) | exact z_mo_br (z_gr_rf rfl) (z_gr_rf rfl) | exact z_mo_cl (z_gr_rf rfl) | exact z_mo_rt (z_gr_rf rfl) | exact z_mo_go (z_gr_nw _ _ _) | exact z_mo_gg (z_gr_nw _ _ _) | exact (z_gr_rf rfl : z_gr _ _ _)) | first | exact trivial | exact z_mo_go (z_gr_rf rfl) | exact z_mo_gg (z_gr_rf rfl) | exact z_mo_br (z_gr_rf rfl) (z_gr_rf rfl) | exact z_mo_cl (z_gr_rf rfl) | exact z_mo_rt (z_gr_rf rfl) | exact z_mo_go (z_gr_nw _ _ _) | exact z_mo_gg (z_gr_nw _ _ _) | exact (z_gr_rf rfl : z_gr _ _ _)
theorem m_aLJ (n i : Nat) : zMon (aLJ n i) := by
  intro S lc st M
  unfold aLJ
  first | (split <;> first | exact trivial | exact z_mo_go (z_gr_rf rfl) | exact z_mo_gg (z_gr_rf rfl) | exact z_mo_br (z_gr_rf rfl) (z_gr_rf rfl) | exact z_mo_cl (z_gr_rf rfl) | exact z_mo_rt (z_gr_rf rfl) | exact z_mo_go (z_gr_nw _ _ _) | exact z_mo_gg (z_gr_nw _ _ _) | exact (z_gr_rf rfl : z_gr _ _ _)) | first | exact trivial | exact z_mo_go (z_gr_rf rfl) | exact z_mo_gg (z_gr_rf rfl) | exact z_mo_br (z_gr_rf rfl) (z_gr_rf rfl) | exact z_mo_cl (z_gr_rf rfl) | exact z_mo_rt (z_gr_rf rfl) | exact z_mo_go (z_gr_nw _ _ _) | exact z_mo_gg (z_gr_nw _ _ _) | exact (z_gr_rf rfl : z_gr _ _ _)
theorem m_aLD (n i : Nat) : zMon (aLD n i) := by
  intro S lc st M
  unfold aLD
  first | (split <;> first | exact trivial | exact z_mo_go (z_gr_rf rfl) | exact z_mo_gg (z_gr_rf rfl) | exact z_mo_br (z_gr_rf rfl) (z_gr_rf rfl) | exact z_mo_cl (z_gr_rf rfl) | exact z_mo_rt (z_gr_rf rfl) | exact z_mo_go (z_gr_nw _ _ _) | exact z_mo_gg (z_gr_nw _ _ _) | exact (z_gr_rf rfl : z_gr _ _ _)) | first | exact trivial | exact z_mo_go (z_gr_rf rfl) | exact z_mo_gg (z_gr_rf rfl) | exact z_mo_br (z_gr_rf rfl) (z_gr_rf rfl) | exact z_mo_cl (z_gr_rf rfl) | exact z_mo_rt (z_gr_rf rfl) | exact z_mo_go (z_gr_nw _ _ _) | exact z_mo_gg (z_gr_nw _ _ _) | exact (z_gr_rf rfl : z_gr _ _ _)
theorem m_aLR (n i : Nat) : zMon (aLR n i) := by
  intro S lc st M
  unfold aLR
  first | (split <;> first | exact trivial | exact z_mo_go (z_gr_rf rfl) | exact z_mo_gg (z_gr_rf rfl) | exact z_mo_br (z_gr_rf rfl) (z_gr_rf rfl) | exact z_mo_cl (z_gr_rf rfl) | exact z_mo_rt (z_gr_rf rfl) | exact z_mo_go (z_gr_nw _ _ _) | exact z_mo_gg (z_gr_nw _ _ _) | exact (z_gr_rf rfl : z_gr _ _ _)) | first | exact trivial | exact z_mo_go (z_gr_rf rfl) | exact z_mo_gg (z_gr_rf rfl) | exact z_mo_br (z_gr_rf rfl) (z_gr_rf rfl) | exact z_mo_cl (z_gr_rf rfl) | exact z_mo_rt (z_gr_rf rfl) | exact z_mo_go (z_gr_nw _ _ _) | exact z_mo_gg (z_gr_nw _ _ _) | exact (z_gr_rf rfl : z_gr _ _ _)
theorem m_aSI (n i : Nat) : zMon (aSI n i) := by
  intro S lc st M
  unfold aSI
  first | (split <;> first | exact trivial | exact z_mo_go (z_gr_rf rfl) | exact z_mo_gg (z_gr_rf rfl) | exact z_mo_br (z_gr_rf rfl) (z_gr_rf rfl) | exact z_mo_cl (z_gr_rf rfl) | exact z_mo_rt (z_gr_rf rfl) | exact z_mo_go (z_gr_nw _ _ _) | exact z_mo_gg (z_gr_nw _ _ _) | exact (z_gr_rf rfl : z_gr _ _ _)) | first | exact trivial | exact z_mo_go (z_gr_rf rfl) | exact z_mo_gg (z_gr_rf rfl) | exact z_mo_br (z_gr_rf rfl) (z_gr_rf rfl) | exact z_mo_cl (z_gr_rf rfl) | exact z_mo_rt (z_gr_rf rfl) | exact z_mo_go (z_gr_nw _ _ _) | exact z_mo_gg (z_gr_nw _ _ _) | exact (z_gr_rf rfl : z_gr _ _ _)
theorem m_aSR (n i : Nat) : zMon (aSR n i) := by
  intro S lc st M
  unfold aSR
  first | (split <;> first | exact trivial | exact z_mo_go (z_gr_rf rfl) | exact z_mo_gg (z_gr_rf rfl) | exact z_mo_br (z_gr_rf rfl) (z_gr_rf rfl) | exact z_mo_cl (z_gr_rf rfl) | exact z_mo_rt (z_gr_rf rfl) | exact z_mo_go (z_gr_nw _ _ _) | exact z_mo_gg (z_gr_nw _ _ _) | exact (z_gr_rf rfl : z_gr _ _ _)) | first | exact trivial | exact z_mo_go (z_gr_rf rfl) | exact z_mo_gg (z_gr_rf rfl) | exact z_mo_br (z_gr_rf rfl) (z_gr_rf rfl) | exact z_mo_cl (z_gr_rf rfl) | exact z_mo_rt (z_gr_rf rfl) | exact z_mo_go (z_gr_nw _ _ _) | exact z_mo_gg (z_gr_nw _ _ _) | exact (z_gr_rf rfl : z_gr _ _ _)
theorem m_aSJ (n i : Nat) : zMon (aSJ n i) := by
  intro S lc st M
  unfold aSJ
  first | (split <;> first | exact trivial | exact z_mo_go (z_gr_rf rfl) | exact z_mo_gg (z_gr_rf rfl) | exact z_mo_br (z_gr_rf rfl) (z_gr_rf rfl) | exact z_mo_cl (z_gr_rf rfl) | exact z_mo_rt (z_gr_rf rfl) | exact z_mo_go (z_gr_nw _ _ _) | exact z_mo_gg (z_gr_nw _ _ _) | exact (z_gr_rf rfl : z_gr _ _ _)) | first | exact trivial | exact z_mo_go (z_gr_rf rfl) | exact z_mo_gg (z_gr_rf rfl) | exact z_mo_br (z_gr_rf rfl) (z_gr_rf rfl) | exact z_mo_cl (z_gr_rf rfl) | exact z_mo_rt (z_gr_rf rfl) | exact z_mo_go (z_gr_nw _ _ _) | exact z_mo_gg (z_gr_nw _ _ _) | exact (z_gr_rf rfl : z_gr _ _ _)
theorem m_aSD (n i : Nat) : zMon (aSD n i) := by
  intro S lc st M
  unfold aSD
  first | (split <;> first | exact trivial | exact z_mo_go (z_gr_rf rfl) | exact z_mo_gg (z_gr_rf rfl) | exact z_mo_br (z_gr_rf rfl) (z_gr_rf rfl) | exact z_mo_cl (z_gr_rf rfl) | exact z_mo_rt (z_gr_rf rfl) | exact z_mo_go (z_gr_nw _ _ _) | exact z_mo_gg (z_gr_nw _ _ _) | exact (z_gr_rf rfl : z_gr _ _ _)) | first | exact trivial | exact z_mo_go (z_gr_rf rfl) | exact z_mo_gg (z_gr_rf rfl) | exact z_mo_br (z_gr_rf rfl) (z_gr_rf rfl) | exact z_mo_cl (z_gr_rf rfl) | exact z_mo_rt (z_gr_rf rfl) | exact z_mo_go (z_gr_nw _ _ _) | exact z_mo_gg (z_gr_nw _ _ _) | exact (z_gr_rf rfl : z_gr _ _ _)
theorem m_aInc (n : Nat) (i : Nat) (v : Int32) : zMon (aInc n i v) := by
  intro S lc st M
  unfold aInc
  first | (split <;> first | exact trivial | exact z_mo_go (z_gr_rf rfl) | exact z_mo_gg (z_gr_rf rfl) | exact z_mo_br (z_gr_rf rfl) (z_gr_rf rfl) | exact z_mo_cl (z_gr_rf rfl) | exact z_mo_rt (z_gr_rf rfl) | exact z_mo_go (z_gr_nw _ _ _) | exact z_mo_gg (z_gr_nw _ _ _) | exact (z_gr_rf rfl : z_gr _ _ _)) | first | exact trivial | exact z_mo_go (z_gr_rf rfl) | exact z_mo_gg (z_gr_rf rfl) | exact z_mo_br (z_gr_rf rfl) (z_gr_rf rfl) | exact z_mo_cl (z_gr_rf rfl) | exact z_mo_rt (z_gr_rf rfl) | exact z_mo_go (z_gr_nw _ _ _) | exact z_mo_gg (z_gr_nw _ _ _) | exact (z_gr_rf rfl : z_gr _ _ _)
theorem m_aDup (n : Nat) : zMon (aDup n) := by
  intro S lc st M
  unfold aDup
  first | (split <;> first | exact trivial | exact z_mo_go (z_gr_rf rfl) | exact z_mo_gg (z_gr_rf rfl) | exact z_mo_br (z_gr_rf rfl) (z_gr_rf rfl) | exact z_mo_cl (z_gr_rf rfl) | exact z_mo_rt (z_gr_rf rfl) | exact z_mo_go (z_gr_nw _ _ _) | exact z_mo_gg (z_gr_nw _ _ _) | exact (z_gr_rf rfl : z_gr _ _ _)) | first | exact trivial | exact z_mo_go (z_gr_rf rfl) | exact z_mo_gg (z_gr_rf rfl) | exact z_mo_br (z_gr_rf rfl) (z_gr_rf rfl) | exact z_mo_cl (z_gr_rf rfl) | exact z_mo_rt (z_gr_rf rfl) | exact z_mo_go (z_gr_nw _ _ _) | exact z_mo_gg (z_gr_nw _ _ _) | exact (z_gr_rf rfl : z_gr _ _ _)
theorem m_aDup2 (n : Nat) : zMon (aDup2 n) := by
  intro S lc st M
  unfold aDup2
  first | (split <;> first | exact trivial | exact z_mo_go (z_gr_rf rfl) | exact z_mo_gg (z_gr_rf rfl) | exact z_mo_br (z_gr_rf rfl) (z_gr_rf rfl) | exact z_mo_cl (z_gr_rf rfl) | exact z_mo_rt (z_gr_rf rfl) | exact z_mo_go (z_gr_nw _ _ _) | exact z_mo_gg (z_gr_nw _ _ _) | exact (z_gr_rf rfl : z_gr _ _ _)) | first | exact trivial | exact z_mo_go (z_gr_rf rfl) | exact z_mo_gg (z_gr_rf rfl) | exact z_mo_br (z_gr_rf rfl) (z_gr_rf rfl) | exact z_mo_cl (z_gr_rf rfl) | exact z_mo_rt (z_gr_rf rfl) | exact z_mo_go (z_gr_nw _ _ _) | exact z_mo_gg (z_gr_nw _ _ _) | exact (z_gr_rf rfl : z_gr _ _ _)
theorem m_aPop (n : Nat) : zMon (aPop n) := by
  intro S lc st M
  unfold aPop
  first | (split <;> first | exact trivial | exact z_mo_go (z_gr_rf rfl) | exact z_mo_gg (z_gr_rf rfl) | exact z_mo_br (z_gr_rf rfl) (z_gr_rf rfl) | exact z_mo_cl (z_gr_rf rfl) | exact z_mo_rt (z_gr_rf rfl) | exact z_mo_go (z_gr_nw _ _ _) | exact z_mo_gg (z_gr_nw _ _ _) | exact (z_gr_rf rfl : z_gr _ _ _)) | first | exact trivial | exact z_mo_go (z_gr_rf rfl) | exact z_mo_gg (z_gr_rf rfl) | exact z_mo_br (z_gr_rf rfl) (z_gr_rf rfl) | exact z_mo_cl (z_gr_rf rfl) | exact z_mo_rt (z_gr_rf rfl) | exact z_mo_go (z_gr_nw _ _ _) | exact z_mo_gg (z_gr_nw _ _ _) | exact (z_gr_rf rfl : z_gr _ _ _)
theorem m_aII (n : Nat) (f : Int32 → Int32) : zMon (aII n f) := by
  intro S lc st M
  unfold aII
  first | (split <;> first | exact trivial | exact z_mo_go (z_gr_rf rfl) | exact z_mo_gg (z_gr_rf rfl) | exact z_mo_br (z_gr_rf rfl) (z_gr_rf rfl) | exact z_mo_cl (z_gr_rf rfl) | exact z_mo_rt (z_gr_rf rfl) | exact z_mo_go (z_gr_nw _ _ _) | exact z_mo_gg (z_gr_nw _ _ _) | exact (z_gr_rf rfl : z_gr _ _ _)) | first | exact trivial | exact z_mo_go (z_gr_rf rfl) | exact z_mo_gg (z_gr_rf rfl) | exact z_mo_br (z_gr_rf rfl) (z_gr_rf rfl) | exact z_mo_cl (z_gr_rf rfl) | exact z_mo_rt (z_gr_rf rfl) | exact z_mo_go (z_gr_nw _ _ _) | exact z_mo_gg (z_gr_nw _ _ _) | exact (z_gr_rf rfl : z_gr _ _ _)
theorem m_aB (n : Nat) (f : Int32 → Int32 → Int32) : zMon (aB n f) := by
  intro S lc st M
  unfold aB
  first | (split <;> first | exact trivial | exact z_mo_go (z_gr_rf rfl) | exact z_mo_gg (z_gr_rf rfl) | exact z_mo_br (z_gr_rf rfl) (z_gr_rf rfl) | exact z_mo_cl (z_gr_rf rfl) | exact z_mo_rt (z_gr_rf rfl) | exact z_mo_go (z_gr_nw _ _ _) | exact z_mo_gg (z_gr_nw _ _ _) | exact (z_gr_rf rfl : z_gr _ _ _)) | first | exact trivial | exact z_mo_go (z_gr_rf rfl) | exact z_mo_gg (z_gr_rf rfl) | exact z_mo_br (z_gr_rf rfl) (z_gr_rf rfl) | exact z_mo_cl (z_gr_rf rfl) | exact z_mo_rt (z_gr_rf rfl) | exact z_mo_go (z_gr_nw _ _ _) | exact z_mo_gg (z_gr_nw _ _ _) | exact (z_gr_rf rfl : z_gr _ _ _)
theorem m_aBz (n : Nat) (f : Int32 → Int32 → Int32) : zMon (aBz n f) := by
  intro S lc st M
  unfold aBz
  first | (split <;> first | exact trivial | exact z_mo_go (z_gr_rf rfl) | exact z_mo_gg (z_gr_rf rfl) | exact z_mo_br (z_gr_rf rfl) (z_gr_rf rfl) | exact z_mo_cl (z_gr_rf rfl) | exact z_mo_rt (z_gr_rf rfl) | exact z_mo_go (z_gr_nw _ _ _) | exact z_mo_gg (z_gr_nw _ _ _) | exact (z_gr_rf rfl : z_gr _ _ _)) | first | exact trivial | exact z_mo_go (z_gr_rf rfl) | exact z_mo_gg (z_gr_rf rfl) | exact z_mo_br (z_gr_rf rfl) (z_gr_rf rfl) | exact z_mo_cl (z_gr_rf rfl) | exact z_mo_rt (z_gr_rf rfl) | exact z_mo_go (z_gr_nw _ _ _) | exact z_mo_gg (z_gr_nw _ _ _) | exact (z_gr_rf rfl : z_gr _ _ _)
theorem m_aJ (n : Nat) (f : Int64 → Int64 → Int64) : zMon (aJ n f) := by
  intro S lc st M
  unfold aJ
  first | (split <;> first | exact trivial | exact z_mo_go (z_gr_rf rfl) | exact z_mo_gg (z_gr_rf rfl) | exact z_mo_br (z_gr_rf rfl) (z_gr_rf rfl) | exact z_mo_cl (z_gr_rf rfl) | exact z_mo_rt (z_gr_rf rfl) | exact z_mo_go (z_gr_nw _ _ _) | exact z_mo_gg (z_gr_nw _ _ _) | exact (z_gr_rf rfl : z_gr _ _ _)) | first | exact trivial | exact z_mo_go (z_gr_rf rfl) | exact z_mo_gg (z_gr_rf rfl) | exact z_mo_br (z_gr_rf rfl) (z_gr_rf rfl) | exact z_mo_cl (z_gr_rf rfl) | exact z_mo_rt (z_gr_rf rfl) | exact z_mo_go (z_gr_nw _ _ _) | exact z_mo_gg (z_gr_nw _ _ _) | exact (z_gr_rf rfl : z_gr _ _ _)
theorem m_aJz (n : Nat) (f : Int64 → Int64 → Int64) : zMon (aJz n f) := by
  intro S lc st M
  unfold aJz
  first | (split <;> first | exact trivial | exact z_mo_go (z_gr_rf rfl) | exact z_mo_gg (z_gr_rf rfl) | exact z_mo_br (z_gr_rf rfl) (z_gr_rf rfl) | exact z_mo_cl (z_gr_rf rfl) | exact z_mo_rt (z_gr_rf rfl) | exact z_mo_go (z_gr_nw _ _ _) | exact z_mo_gg (z_gr_nw _ _ _) | exact (z_gr_rf rfl : z_gr _ _ _)) | first | exact trivial | exact z_mo_go (z_gr_rf rfl) | exact z_mo_gg (z_gr_rf rfl) | exact z_mo_br (z_gr_rf rfl) (z_gr_rf rfl) | exact z_mo_cl (z_gr_rf rfl) | exact z_mo_rt (z_gr_rf rfl) | exact z_mo_go (z_gr_nw _ _ _) | exact z_mo_gg (z_gr_nw _ _ _) | exact (z_gr_rf rfl : z_gr _ _ _)
theorem m_aJsh (n : Nat) (f : Int64 → Int32 → Int64) : zMon (aJsh n f) := by
  intro S lc st M
  unfold aJsh
  first | (split <;> first | exact trivial | exact z_mo_go (z_gr_rf rfl) | exact z_mo_gg (z_gr_rf rfl) | exact z_mo_br (z_gr_rf rfl) (z_gr_rf rfl) | exact z_mo_cl (z_gr_rf rfl) | exact z_mo_rt (z_gr_rf rfl) | exact z_mo_go (z_gr_nw _ _ _) | exact z_mo_gg (z_gr_nw _ _ _) | exact (z_gr_rf rfl : z_gr _ _ _)) | first | exact trivial | exact z_mo_go (z_gr_rf rfl) | exact z_mo_gg (z_gr_rf rfl) | exact z_mo_br (z_gr_rf rfl) (z_gr_rf rfl) | exact z_mo_cl (z_gr_rf rfl) | exact z_mo_rt (z_gr_rf rfl) | exact z_mo_go (z_gr_nw _ _ _) | exact z_mo_gg (z_gr_nw _ _ _) | exact (z_gr_rf rfl : z_gr _ _ _)
theorem m_aI2J (n : Nat) : zMon (aI2J n) := by
  intro S lc st M
  unfold aI2J
  first | (split <;> first | exact trivial | exact z_mo_go (z_gr_rf rfl) | exact z_mo_gg (z_gr_rf rfl) | exact z_mo_br (z_gr_rf rfl) (z_gr_rf rfl) | exact z_mo_cl (z_gr_rf rfl) | exact z_mo_rt (z_gr_rf rfl) | exact z_mo_go (z_gr_nw _ _ _) | exact z_mo_gg (z_gr_nw _ _ _) | exact (z_gr_rf rfl : z_gr _ _ _)) | first | exact trivial | exact z_mo_go (z_gr_rf rfl) | exact z_mo_gg (z_gr_rf rfl) | exact z_mo_br (z_gr_rf rfl) (z_gr_rf rfl) | exact z_mo_cl (z_gr_rf rfl) | exact z_mo_rt (z_gr_rf rfl) | exact z_mo_go (z_gr_nw _ _ _) | exact z_mo_gg (z_gr_nw _ _ _) | exact (z_gr_rf rfl : z_gr _ _ _)
theorem m_aJ2I (n : Nat) : zMon (aJ2I n) := by
  intro S lc st M
  unfold aJ2I
  first | (split <;> first | exact trivial | exact z_mo_go (z_gr_rf rfl) | exact z_mo_gg (z_gr_rf rfl) | exact z_mo_br (z_gr_rf rfl) (z_gr_rf rfl) | exact z_mo_cl (z_gr_rf rfl) | exact z_mo_rt (z_gr_rf rfl) | exact z_mo_go (z_gr_nw _ _ _) | exact z_mo_gg (z_gr_nw _ _ _) | exact (z_gr_rf rfl : z_gr _ _ _)) | first | exact trivial | exact z_mo_go (z_gr_rf rfl) | exact z_mo_gg (z_gr_rf rfl) | exact z_mo_br (z_gr_rf rfl) (z_gr_rf rfl) | exact z_mo_cl (z_gr_rf rfl) | exact z_mo_rt (z_gr_rf rfl) | exact z_mo_go (z_gr_nw _ _ _) | exact z_mo_gg (z_gr_nw _ _ _) | exact (z_gr_rf rfl : z_gr _ _ _)
theorem m_aI2D (n : Nat) : zMon (aI2D n) := by
  intro S lc st M
  unfold aI2D
  first | (split <;> first | exact trivial | exact z_mo_go (z_gr_rf rfl) | exact z_mo_gg (z_gr_rf rfl) | exact z_mo_br (z_gr_rf rfl) (z_gr_rf rfl) | exact z_mo_cl (z_gr_rf rfl) | exact z_mo_rt (z_gr_rf rfl) | exact z_mo_go (z_gr_nw _ _ _) | exact z_mo_gg (z_gr_nw _ _ _) | exact (z_gr_rf rfl : z_gr _ _ _)) | first | exact trivial | exact z_mo_go (z_gr_rf rfl) | exact z_mo_gg (z_gr_rf rfl) | exact z_mo_br (z_gr_rf rfl) (z_gr_rf rfl) | exact z_mo_cl (z_gr_rf rfl) | exact z_mo_rt (z_gr_rf rfl) | exact z_mo_go (z_gr_nw _ _ _) | exact z_mo_gg (z_gr_nw _ _ _) | exact (z_gr_rf rfl : z_gr _ _ _)
theorem m_aJ2D (n : Nat) : zMon (aJ2D n) := by
  intro S lc st M
  unfold aJ2D
  first | (split <;> first | exact trivial | exact z_mo_go (z_gr_rf rfl) | exact z_mo_gg (z_gr_rf rfl) | exact z_mo_br (z_gr_rf rfl) (z_gr_rf rfl) | exact z_mo_cl (z_gr_rf rfl) | exact z_mo_rt (z_gr_rf rfl) | exact z_mo_go (z_gr_nw _ _ _) | exact z_mo_gg (z_gr_nw _ _ _) | exact (z_gr_rf rfl : z_gr _ _ _)) | first | exact trivial | exact z_mo_go (z_gr_rf rfl) | exact z_mo_gg (z_gr_rf rfl) | exact z_mo_br (z_gr_rf rfl) (z_gr_rf rfl) | exact z_mo_cl (z_gr_rf rfl) | exact z_mo_rt (z_gr_rf rfl) | exact z_mo_go (z_gr_nw _ _ _) | exact z_mo_gg (z_gr_nw _ _ _) | exact (z_gr_rf rfl : z_gr _ _ _)
theorem m_aD2J (n : Nat) : zMon (aD2J n) := by
  intro S lc st M
  unfold aD2J
  first | (split <;> first | exact trivial | exact z_mo_go (z_gr_rf rfl) | exact z_mo_gg (z_gr_rf rfl) | exact z_mo_br (z_gr_rf rfl) (z_gr_rf rfl) | exact z_mo_cl (z_gr_rf rfl) | exact z_mo_rt (z_gr_rf rfl) | exact z_mo_go (z_gr_nw _ _ _) | exact z_mo_gg (z_gr_nw _ _ _) | exact (z_gr_rf rfl : z_gr _ _ _)) | first | exact trivial | exact z_mo_go (z_gr_rf rfl) | exact z_mo_gg (z_gr_rf rfl) | exact z_mo_br (z_gr_rf rfl) (z_gr_rf rfl) | exact z_mo_cl (z_gr_rf rfl) | exact z_mo_rt (z_gr_rf rfl) | exact z_mo_go (z_gr_nw _ _ _) | exact z_mo_gg (z_gr_nw _ _ _) | exact (z_gr_rf rfl : z_gr _ _ _)
theorem m_aLcmp (n : Nat) : zMon (aLcmp n) := by
  intro S lc st M
  unfold aLcmp
  first | (split <;> first | exact trivial | exact z_mo_go (z_gr_rf rfl) | exact z_mo_gg (z_gr_rf rfl) | exact z_mo_br (z_gr_rf rfl) (z_gr_rf rfl) | exact z_mo_cl (z_gr_rf rfl) | exact z_mo_rt (z_gr_rf rfl) | exact z_mo_go (z_gr_nw _ _ _) | exact z_mo_gg (z_gr_nw _ _ _) | exact (z_gr_rf rfl : z_gr _ _ _)) | first | exact trivial | exact z_mo_go (z_gr_rf rfl) | exact z_mo_gg (z_gr_rf rfl) | exact z_mo_br (z_gr_rf rfl) (z_gr_rf rfl) | exact z_mo_cl (z_gr_rf rfl) | exact z_mo_rt (z_gr_rf rfl) | exact z_mo_go (z_gr_nw _ _ _) | exact z_mo_gg (z_gr_nw _ _ _) | exact (z_gr_rf rfl : z_gr _ _ _)
theorem m_aDcmp (n : Nat) (op : CmpOp) : zMon (aDcmp n op) := by
  intro S lc st M
  unfold aDcmp
  first | (split <;> first | exact trivial | exact z_mo_go (z_gr_rf rfl) | exact z_mo_gg (z_gr_rf rfl) | exact z_mo_br (z_gr_rf rfl) (z_gr_rf rfl) | exact z_mo_cl (z_gr_rf rfl) | exact z_mo_rt (z_gr_rf rfl) | exact z_mo_go (z_gr_nw _ _ _) | exact z_mo_gg (z_gr_nw _ _ _) | exact (z_gr_rf rfl : z_gr _ _ _)) | first | exact trivial | exact z_mo_go (z_gr_rf rfl) | exact z_mo_gg (z_gr_rf rfl) | exact z_mo_br (z_gr_rf rfl) (z_gr_rf rfl) | exact z_mo_cl (z_gr_rf rfl) | exact z_mo_rt (z_gr_rf rfl) | exact z_mo_go (z_gr_nw _ _ _) | exact z_mo_gg (z_gr_nw _ _ _) | exact (z_gr_rf rfl : z_gr _ _ _)
theorem m_aDD (n : Nat) (f : UInt64 → UInt64 → UInt64) : zMon (aDD n f) := by
  intro S lc st M
  unfold aDD
  first | (split <;> first | exact trivial | exact z_mo_go (z_gr_rf rfl) | exact z_mo_gg (z_gr_rf rfl) | exact z_mo_br (z_gr_rf rfl) (z_gr_rf rfl) | exact z_mo_cl (z_gr_rf rfl) | exact z_mo_rt (z_gr_rf rfl) | exact z_mo_go (z_gr_nw _ _ _) | exact z_mo_gg (z_gr_nw _ _ _) | exact (z_gr_rf rfl : z_gr _ _ _)) | first | exact trivial | exact z_mo_go (z_gr_rf rfl) | exact z_mo_gg (z_gr_rf rfl) | exact z_mo_br (z_gr_rf rfl) (z_gr_rf rfl) | exact z_mo_cl (z_gr_rf rfl) | exact z_mo_rt (z_gr_rf rfl) | exact z_mo_go (z_gr_nw _ _ _) | exact z_mo_gg (z_gr_nw _ _ _) | exact (z_gr_rf rfl : z_gr _ _ _)
theorem m_aRaw (n : Nat) : zMon (aRaw n) := by
  intro S lc st M
  unfold aRaw
  first | (split <;> first | exact trivial | exact z_mo_go (z_gr_rf rfl) | exact z_mo_gg (z_gr_rf rfl) | exact z_mo_br (z_gr_rf rfl) (z_gr_rf rfl) | exact z_mo_cl (z_gr_rf rfl) | exact z_mo_rt (z_gr_rf rfl) | exact z_mo_go (z_gr_nw _ _ _) | exact z_mo_gg (z_gr_nw _ _ _) | exact (z_gr_rf rfl : z_gr _ _ _)) | first | exact trivial | exact z_mo_go (z_gr_rf rfl) | exact z_mo_gg (z_gr_rf rfl) | exact z_mo_br (z_gr_rf rfl) (z_gr_rf rfl) | exact z_mo_cl (z_gr_rf rfl) | exact z_mo_rt (z_gr_rf rfl) | exact z_mo_go (z_gr_nw _ _ _) | exact z_mo_gg (z_gr_nw _ _ _) | exact (z_gr_rf rfl : z_gr _ _ _)
theorem m_aGo (t : Nat) : zMon (aGo t) := by
  intro S lc st M
  unfold aGo
  first | (split <;> first | exact trivial | exact z_mo_go (z_gr_rf rfl) | exact z_mo_gg (z_gr_rf rfl) | exact z_mo_br (z_gr_rf rfl) (z_gr_rf rfl) | exact z_mo_cl (z_gr_rf rfl) | exact z_mo_rt (z_gr_rf rfl) | exact z_mo_go (z_gr_nw _ _ _) | exact z_mo_gg (z_gr_nw _ _ _) | exact (z_gr_rf rfl : z_gr _ _ _)) | first | exact trivial | exact z_mo_go (z_gr_rf rfl) | exact z_mo_gg (z_gr_rf rfl) | exact z_mo_br (z_gr_rf rfl) (z_gr_rf rfl) | exact z_mo_cl (z_gr_rf rfl) | exact z_mo_rt (z_gr_rf rfl) | exact z_mo_go (z_gr_nw _ _ _) | exact z_mo_gg (z_gr_nw _ _ _) | exact (z_gr_rf rfl : z_gr _ _ _)
theorem m_aIf (n : Nat) (c : Int32 → Bool) (t : Nat) : zMon (aIf n c t) := by
  intro S lc st M
  unfold aIf
  first | (split <;> first | exact trivial | exact z_mo_go (z_gr_rf rfl) | exact z_mo_gg (z_gr_rf rfl) | exact z_mo_br (z_gr_rf rfl) (z_gr_rf rfl) | exact z_mo_cl (z_gr_rf rfl) | exact z_mo_rt (z_gr_rf rfl) | exact z_mo_go (z_gr_nw _ _ _) | exact z_mo_gg (z_gr_nw _ _ _) | exact (z_gr_rf rfl : z_gr _ _ _)) | first | exact trivial | exact z_mo_go (z_gr_rf rfl) | exact z_mo_gg (z_gr_rf rfl) | exact z_mo_br (z_gr_rf rfl) (z_gr_rf rfl) | exact z_mo_cl (z_gr_rf rfl) | exact z_mo_rt (z_gr_rf rfl) | exact z_mo_go (z_gr_nw _ _ _) | exact z_mo_gg (z_gr_nw _ _ _) | exact (z_gr_rf rfl : z_gr _ _ _)
theorem m_aCmp (n : Nat) (c : Int32 → Int32 → Bool) (t : Nat) : zMon (aCmp n c t) := by
  intro S lc st M
  unfold aCmp
  first | (split <;> first | exact trivial | exact z_mo_go (z_gr_rf rfl) | exact z_mo_gg (z_gr_rf rfl) | exact z_mo_br (z_gr_rf rfl) (z_gr_rf rfl) | exact z_mo_cl (z_gr_rf rfl) | exact z_mo_rt (z_gr_rf rfl) | exact z_mo_go (z_gr_nw _ _ _) | exact z_mo_gg (z_gr_nw _ _ _) | exact (z_gr_rf rfl : z_gr _ _ _)) | first | exact trivial | exact z_mo_go (z_gr_rf rfl) | exact z_mo_gg (z_gr_rf rfl) | exact z_mo_br (z_gr_rf rfl) (z_gr_rf rfl) | exact z_mo_cl (z_gr_rf rfl) | exact z_mo_rt (z_gr_rf rfl) | exact z_mo_go (z_gr_nw _ _ _) | exact z_mo_gg (z_gr_nw _ _ _) | exact (z_gr_rf rfl : z_gr _ _ _)
theorem m_aNul (n : Nat) (t : Nat) : zMon (aNul n t) := by
  intro S lc st M
  unfold aNul
  first | (split <;> first | exact trivial | exact z_mo_go (z_gr_rf rfl) | exact z_mo_gg (z_gr_rf rfl) | exact z_mo_br (z_gr_rf rfl) (z_gr_rf rfl) | exact z_mo_cl (z_gr_rf rfl) | exact z_mo_rt (z_gr_rf rfl) | exact z_mo_go (z_gr_nw _ _ _) | exact z_mo_gg (z_gr_nw _ _ _) | exact (z_gr_rf rfl : z_gr _ _ _)) | first | exact trivial | exact z_mo_go (z_gr_rf rfl) | exact z_mo_gg (z_gr_rf rfl) | exact z_mo_br (z_gr_rf rfl) (z_gr_rf rfl) | exact z_mo_cl (z_gr_rf rfl) | exact z_mo_rt (z_gr_rf rfl) | exact z_mo_go (z_gr_nw _ _ _) | exact z_mo_gg (z_gr_nw _ _ _) | exact (z_gr_rf rfl : z_gr _ _ _)
theorem m_aNon (n : Nat) (t : Nat) : zMon (aNon n t) := by
  intro S lc st M
  unfold aNon
  first | (split <;> first | exact trivial | exact z_mo_go (z_gr_rf rfl) | exact z_mo_gg (z_gr_rf rfl) | exact z_mo_br (z_gr_rf rfl) (z_gr_rf rfl) | exact z_mo_cl (z_gr_rf rfl) | exact z_mo_rt (z_gr_rf rfl) | exact z_mo_go (z_gr_nw _ _ _) | exact z_mo_gg (z_gr_nw _ _ _) | exact (z_gr_rf rfl : z_gr _ _ _)) | first | exact trivial | exact z_mo_go (z_gr_rf rfl) | exact z_mo_gg (z_gr_rf rfl) | exact z_mo_br (z_gr_rf rfl) (z_gr_rf rfl) | exact z_mo_cl (z_gr_rf rfl) | exact z_mo_rt (z_gr_rf rfl) | exact z_mo_go (z_gr_nw _ _ _) | exact z_mo_gg (z_gr_nw _ _ _) | exact (z_gr_rf rfl : z_gr _ _ _)
theorem m_aGI (n : Nat) (k : Nat) (al : List Nat) : zMon (aGI n k al) := by
  intro S lc st M
  unfold aGI
  first | (split <;> first | exact trivial | exact z_mo_go (z_gr_rf rfl) | exact z_mo_gg (z_gr_rf rfl) | exact z_mo_br (z_gr_rf rfl) (z_gr_rf rfl) | exact z_mo_cl (z_gr_rf rfl) | exact z_mo_rt (z_gr_rf rfl) | exact z_mo_go (z_gr_nw _ _ _) | exact z_mo_gg (z_gr_nw _ _ _) | exact (z_gr_rf rfl : z_gr _ _ _)) | first | exact trivial | exact z_mo_go (z_gr_rf rfl) | exact z_mo_gg (z_gr_rf rfl) | exact z_mo_br (z_gr_rf rfl) (z_gr_rf rfl) | exact z_mo_cl (z_gr_rf rfl) | exact z_mo_rt (z_gr_rf rfl) | exact z_mo_go (z_gr_nw _ _ _) | exact z_mo_gg (z_gr_nw _ _ _) | exact (z_gr_rf rfl : z_gr _ _ _)
theorem m_aGD (n : Nat) (k : Nat) (al : List Nat) : zMon (aGD n k al) := by
  intro S lc st M
  unfold aGD
  first | (split <;> first | exact trivial | exact z_mo_go (z_gr_rf rfl) | exact z_mo_gg (z_gr_rf rfl) | exact z_mo_br (z_gr_rf rfl) (z_gr_rf rfl) | exact z_mo_cl (z_gr_rf rfl) | exact z_mo_rt (z_gr_rf rfl) | exact z_mo_go (z_gr_nw _ _ _) | exact z_mo_gg (z_gr_nw _ _ _) | exact (z_gr_rf rfl : z_gr _ _ _)) | first | exact trivial | exact z_mo_go (z_gr_rf rfl) | exact z_mo_gg (z_gr_rf rfl) | exact z_mo_br (z_gr_rf rfl) (z_gr_rf rfl) | exact z_mo_cl (z_gr_rf rfl) | exact z_mo_rt (z_gr_rf rfl) | exact z_mo_go (z_gr_nw _ _ _) | exact z_mo_gg (z_gr_nw _ _ _) | exact (z_gr_rf rfl : z_gr _ _ _)
theorem m_aGR (n : Nat) (k : Nat) (al : List Nat) : zMon (aGR n k al) := by
  intro S lc st M
  unfold aGR
  first | (split <;> first | exact trivial | exact z_mo_go (z_gr_rf rfl) | exact z_mo_gg (z_gr_rf rfl) | exact z_mo_br (z_gr_rf rfl) (z_gr_rf rfl) | exact z_mo_cl (z_gr_rf rfl) | exact z_mo_rt (z_gr_rf rfl) | exact z_mo_go (z_gr_nw _ _ _) | exact z_mo_gg (z_gr_nw _ _ _) | exact (z_gr_rf rfl : z_gr _ _ _)) | first | exact trivial | exact z_mo_go (z_gr_rf rfl) | exact z_mo_gg (z_gr_rf rfl) | exact z_mo_br (z_gr_rf rfl) (z_gr_rf rfl) | exact z_mo_cl (z_gr_rf rfl) | exact z_mo_rt (z_gr_rf rfl) | exact z_mo_go (z_gr_nw _ _ _) | exact z_mo_gg (z_gr_nw _ _ _) | exact (z_gr_rf rfl : z_gr _ _ _)
theorem m_aPI (n : Nat) (k : Nat) (al : List Nat) : zMon (aPI n k al) := by
  intro S lc st M
  unfold aPI
  first | (split <;> first | exact trivial | exact z_mo_go (z_gr_rf rfl) | exact z_mo_gg (z_gr_rf rfl) | exact z_mo_br (z_gr_rf rfl) (z_gr_rf rfl) | exact z_mo_cl (z_gr_rf rfl) | exact z_mo_rt (z_gr_rf rfl) | exact z_mo_go (z_gr_nw _ _ _) | exact z_mo_gg (z_gr_nw _ _ _) | exact (z_gr_rf rfl : z_gr _ _ _)) | first | exact trivial | exact z_mo_go (z_gr_rf rfl) | exact z_mo_gg (z_gr_rf rfl) | exact z_mo_br (z_gr_rf rfl) (z_gr_rf rfl) | exact z_mo_cl (z_gr_rf rfl) | exact z_mo_rt (z_gr_rf rfl) | exact z_mo_go (z_gr_nw _ _ _) | exact z_mo_gg (z_gr_nw _ _ _) | exact (z_gr_rf rfl : z_gr _ _ _)
theorem m_aPZ (n : Nat) (k : Nat) (al : List Nat) : zMon (aPZ n k al) := by
  intro S lc st M
  unfold aPZ
  first | (split <;> first | exact trivial | exact z_mo_go (z_gr_rf rfl) | exact z_mo_gg (z_gr_rf rfl) | exact z_mo_br (z_gr_rf rfl) (z_gr_rf rfl) | exact z_mo_cl (z_gr_rf rfl) | exact z_mo_rt (z_gr_rf rfl) | exact z_mo_go (z_gr_nw _ _ _) | exact z_mo_gg (z_gr_nw _ _ _) | exact (z_gr_rf rfl : z_gr _ _ _)) | first | exact trivial | exact z_mo_go (z_gr_rf rfl) | exact z_mo_gg (z_gr_rf rfl) | exact z_mo_br (z_gr_rf rfl) (z_gr_rf rfl) | exact z_mo_cl (z_gr_rf rfl) | exact z_mo_rt (z_gr_rf rfl) | exact z_mo_go (z_gr_nw _ _ _) | exact z_mo_gg (z_gr_nw _ _ _) | exact (z_gr_rf rfl : z_gr _ _ _)
theorem m_aPD (n : Nat) (k : Nat) (al : List Nat) : zMon (aPD n k al) := by
  intro S lc st M
  unfold aPD
  first | (split <;> first | exact trivial | exact z_mo_go (z_gr_rf rfl) | exact z_mo_gg (z_gr_rf rfl) | exact z_mo_br (z_gr_rf rfl) (z_gr_rf rfl) | exact z_mo_cl (z_gr_rf rfl) | exact z_mo_rt (z_gr_rf rfl) | exact z_mo_go (z_gr_nw _ _ _) | exact z_mo_gg (z_gr_nw _ _ _) | exact (z_gr_rf rfl : z_gr _ _ _)) | first | exact trivial | exact z_mo_go (z_gr_rf rfl) | exact z_mo_gg (z_gr_rf rfl) | exact z_mo_br (z_gr_rf rfl) (z_gr_rf rfl) | exact z_mo_cl (z_gr_rf rfl) | exact z_mo_rt (z_gr_rf rfl) | exact z_mo_go (z_gr_nw _ _ _) | exact z_mo_gg (z_gr_nw _ _ _) | exact (z_gr_rf rfl : z_gr _ _ _)
theorem m_aPR (n : Nat) (k : Nat) (al : List Nat) : zMon (aPR n k al) := by
  intro S lc st M
  unfold aPR
  first | (split <;> first | exact trivial | exact z_mo_go (z_gr_rf rfl) | exact z_mo_gg (z_gr_rf rfl) | exact z_mo_br (z_gr_rf rfl) (z_gr_rf rfl) | exact z_mo_cl (z_gr_rf rfl) | exact z_mo_rt (z_gr_rf rfl) | exact z_mo_go (z_gr_nw _ _ _) | exact z_mo_gg (z_gr_nw _ _ _) | exact (z_gr_rf rfl : z_gr _ _ _)) | first | exact trivial | exact z_mo_go (z_gr_rf rfl) | exact z_mo_gg (z_gr_rf rfl) | exact z_mo_br (z_gr_rf rfl) (z_gr_rf rfl) | exact z_mo_cl (z_gr_rf rfl) | exact z_mo_rt (z_gr_rf rfl) | exact z_mo_go (z_gr_nw _ _ _) | exact z_mo_gg (z_gr_nw _ _ _) | exact (z_gr_rf rfl : z_gr _ _ _)
theorem m_aALen (n : Nat) (al : List Nat) : zMon (aALen n al) := by
  intro S lc st M
  unfold aALen
  first | (split <;> first | exact trivial | exact z_mo_go (z_gr_rf rfl) | exact z_mo_gg (z_gr_rf rfl) | exact z_mo_br (z_gr_rf rfl) (z_gr_rf rfl) | exact z_mo_cl (z_gr_rf rfl) | exact z_mo_rt (z_gr_rf rfl) | exact z_mo_go (z_gr_nw _ _ _) | exact z_mo_gg (z_gr_nw _ _ _) | exact (z_gr_rf rfl : z_gr _ _ _)) | first | exact trivial | exact z_mo_go (z_gr_rf rfl) | exact z_mo_gg (z_gr_rf rfl) | exact z_mo_br (z_gr_rf rfl) (z_gr_rf rfl) | exact z_mo_cl (z_gr_rf rfl) | exact z_mo_rt (z_gr_rf rfl) | exact z_mo_go (z_gr_nw _ _ _) | exact z_mo_gg (z_gr_nw _ _ _) | exact (z_gr_rf rfl : z_gr _ _ _)
theorem m_aXI (n : Nat) (tg : Nat) : zMon (aXI n tg) := by
  intro S lc st M
  unfold aXI
  first | (split <;> first | exact trivial | exact z_mo_go (z_gr_rf rfl) | exact z_mo_gg (z_gr_rf rfl) | exact z_mo_br (z_gr_rf rfl) (z_gr_rf rfl) | exact z_mo_cl (z_gr_rf rfl) | exact z_mo_rt (z_gr_rf rfl) | exact z_mo_go (z_gr_nw _ _ _) | exact z_mo_gg (z_gr_nw _ _ _) | exact (z_gr_rf rfl : z_gr _ _ _)) | first | exact trivial | exact z_mo_go (z_gr_rf rfl) | exact z_mo_gg (z_gr_rf rfl) | exact z_mo_br (z_gr_rf rfl) (z_gr_rf rfl) | exact z_mo_cl (z_gr_rf rfl) | exact z_mo_rt (z_gr_rf rfl) | exact z_mo_go (z_gr_nw _ _ _) | exact z_mo_gg (z_gr_nw _ _ _) | exact (z_gr_rf rfl : z_gr _ _ _)
theorem m_aXD (n : Nat) : zMon (aXD n) := by
  intro S lc st M
  unfold aXD
  first | (split <;> first | exact trivial | exact z_mo_go (z_gr_rf rfl) | exact z_mo_gg (z_gr_rf rfl) | exact z_mo_br (z_gr_rf rfl) (z_gr_rf rfl) | exact z_mo_cl (z_gr_rf rfl) | exact z_mo_rt (z_gr_rf rfl) | exact z_mo_go (z_gr_nw _ _ _) | exact z_mo_gg (z_gr_nw _ _ _) | exact (z_gr_rf rfl : z_gr _ _ _)) | first | exact trivial | exact z_mo_go (z_gr_rf rfl) | exact z_mo_gg (z_gr_rf rfl) | exact z_mo_br (z_gr_rf rfl) (z_gr_rf rfl) | exact z_mo_cl (z_gr_rf rfl) | exact z_mo_rt (z_gr_rf rfl) | exact z_mo_go (z_gr_nw _ _ _) | exact z_mo_gg (z_gr_nw _ _ _) | exact (z_gr_rf rfl : z_gr _ _ _)
theorem m_aXR (n : Nat) (tg : Nat) : zMon (aXR n tg) := by
  intro S lc st M
  unfold aXR
  first | (split <;> first | exact trivial | exact z_mo_go (z_gr_rf rfl) | exact z_mo_gg (z_gr_rf rfl) | exact z_mo_br (z_gr_rf rfl) (z_gr_rf rfl) | exact z_mo_cl (z_gr_rf rfl) | exact z_mo_rt (z_gr_rf rfl) | exact z_mo_go (z_gr_nw _ _ _) | exact z_mo_gg (z_gr_nw _ _ _) | exact (z_gr_rf rfl : z_gr _ _ _)) | first | exact trivial | exact z_mo_go (z_gr_rf rfl) | exact z_mo_gg (z_gr_rf rfl) | exact z_mo_br (z_gr_rf rfl) (z_gr_rf rfl) | exact z_mo_cl (z_gr_rf rfl) | exact z_mo_rt (z_gr_rf rfl) | exact z_mo_go (z_gr_nw _ _ _) | exact z_mo_gg (z_gr_nw _ _ _) | exact (z_gr_rf rfl : z_gr _ _ _)
theorem m_aYI (n : Nat) : zMon (aYI n) := by
  intro S lc st M
  unfold aYI
  first | (split <;> first | exact trivial | exact z_mo_go (z_gr_rf rfl) | exact z_mo_gg (z_gr_rf rfl) | exact z_mo_br (z_gr_rf rfl) (z_gr_rf rfl) | exact z_mo_cl (z_gr_rf rfl) | exact z_mo_rt (z_gr_rf rfl) | exact z_mo_go (z_gr_nw _ _ _) | exact z_mo_gg (z_gr_nw _ _ _) | exact (z_gr_rf rfl : z_gr _ _ _)) | first | exact trivial | exact z_mo_go (z_gr_rf rfl) | exact z_mo_gg (z_gr_rf rfl) | exact z_mo_br (z_gr_rf rfl) (z_gr_rf rfl) | exact z_mo_cl (z_gr_rf rfl) | exact z_mo_rt (z_gr_rf rfl) | exact z_mo_go (z_gr_nw _ _ _) | exact z_mo_gg (z_gr_nw _ _ _) | exact (z_gr_rf rfl : z_gr _ _ _)
theorem m_aYB (n : Nat) : zMon (aYB n) := by
  intro S lc st M
  unfold aYB
  first | (split <;> first | exact trivial | exact z_mo_go (z_gr_rf rfl) | exact z_mo_gg (z_gr_rf rfl) | exact z_mo_br (z_gr_rf rfl) (z_gr_rf rfl) | exact z_mo_cl (z_gr_rf rfl) | exact z_mo_rt (z_gr_rf rfl) | exact z_mo_go (z_gr_nw _ _ _) | exact z_mo_gg (z_gr_nw _ _ _) | exact (z_gr_rf rfl : z_gr _ _ _)) | first | exact trivial | exact z_mo_go (z_gr_rf rfl) | exact z_mo_gg (z_gr_rf rfl) | exact z_mo_br (z_gr_rf rfl) (z_gr_rf rfl) | exact z_mo_cl (z_gr_rf rfl) | exact z_mo_rt (z_gr_rf rfl) | exact z_mo_go (z_gr_nw _ _ _) | exact z_mo_gg (z_gr_nw _ _ _) | exact (z_gr_rf rfl : z_gr _ _ _)
theorem m_aYZ (n : Nat) : zMon (aYZ n) := by
  intro S lc st M
  unfold aYZ
  first | (split <;> first | exact trivial | exact z_mo_go (z_gr_rf rfl) | exact z_mo_gg (z_gr_rf rfl) | exact z_mo_br (z_gr_rf rfl) (z_gr_rf rfl) | exact z_mo_cl (z_gr_rf rfl) | exact z_mo_rt (z_gr_rf rfl) | exact z_mo_go (z_gr_nw _ _ _) | exact z_mo_gg (z_gr_nw _ _ _) | exact (z_gr_rf rfl : z_gr _ _ _)) | first | exact trivial | exact z_mo_go (z_gr_rf rfl) | exact z_mo_gg (z_gr_rf rfl) | exact z_mo_br (z_gr_rf rfl) (z_gr_rf rfl) | exact z_mo_cl (z_gr_rf rfl) | exact z_mo_rt (z_gr_rf rfl) | exact z_mo_go (z_gr_nw _ _ _) | exact z_mo_gg (z_gr_nw _ _ _) | exact (z_gr_rf rfl : z_gr _ _ _)
theorem m_aYD (n : Nat) : zMon (aYD n) := by
  intro S lc st M
  unfold aYD
  first | (split <;> first | exact trivial | exact z_mo_go (z_gr_rf rfl) | exact z_mo_gg (z_gr_rf rfl) | exact z_mo_br (z_gr_rf rfl) (z_gr_rf rfl) | exact z_mo_cl (z_gr_rf rfl) | exact z_mo_rt (z_gr_rf rfl) | exact z_mo_go (z_gr_nw _ _ _) | exact z_mo_gg (z_gr_nw _ _ _) | exact (z_gr_rf rfl : z_gr _ _ _)) | first | exact trivial | exact z_mo_go (z_gr_rf rfl) | exact z_mo_gg (z_gr_rf rfl) | exact z_mo_br (z_gr_rf rfl) (z_gr_rf rfl) | exact z_mo_cl (z_gr_rf rfl) | exact z_mo_rt (z_gr_rf rfl) | exact z_mo_go (z_gr_nw _ _ _) | exact z_mo_gg (z_gr_nw _ _ _) | exact (z_gr_rf rfl : z_gr _ _ _)
theorem m_aYR (n : Nat) (tg : Nat) (al : List Nat) : zMon (aYR n tg al) := by
  intro S lc st M
  unfold aYR
  first | (split <;> first | exact trivial | exact z_mo_go (z_gr_rf rfl) | exact z_mo_gg (z_gr_rf rfl) | exact z_mo_br (z_gr_rf rfl) (z_gr_rf rfl) | exact z_mo_cl (z_gr_rf rfl) | exact z_mo_rt (z_gr_rf rfl) | exact z_mo_go (z_gr_nw _ _ _) | exact z_mo_gg (z_gr_nw _ _ _) | exact (z_gr_rf rfl : z_gr _ _ _)) | first | exact trivial | exact z_mo_go (z_gr_rf rfl) | exact z_mo_gg (z_gr_rf rfl) | exact z_mo_br (z_gr_rf rfl) (z_gr_rf rfl) | exact z_mo_cl (z_gr_rf rfl) | exact z_mo_rt (z_gr_rf rfl) | exact z_mo_go (z_gr_nw _ _ _) | exact z_mo_gg (z_gr_nw _ _ _) | exact (z_gr_rf rfl : z_gr _ _ _)
theorem m_aYG (n : Nat) (tg : Nat) (al : List Nat) : zMon (aYG n tg al) := by
  intro S lc st M
  unfold aYG
  first | (split <;> first | exact trivial | exact z_mo_go (z_gr_rf rfl) | exact z_mo_gg (z_gr_rf rfl) | exact z_mo_br (z_gr_rf rfl) (z_gr_rf rfl) | exact z_mo_cl (z_gr_rf rfl) | exact z_mo_rt (z_gr_rf rfl) | exact z_mo_go (z_gr_nw _ _ _) | exact z_mo_gg (z_gr_nw _ _ _) | exact (z_gr_rf rfl : z_gr _ _ _)) | first | exact trivial | exact z_mo_go (z_gr_rf rfl) | exact z_mo_gg (z_gr_rf rfl) | exact z_mo_br (z_gr_rf rfl) (z_gr_rf rfl) | exact z_mo_cl (z_gr_rf rfl) | exact z_mo_rt (z_gr_rf rfl) | exact z_mo_go (z_gr_nw _ _ _) | exact z_mo_gg (z_gr_nw _ _ _) | exact (z_gr_rf rfl : z_gr _ _ _)
theorem m_aNew (n tg sz : Nat) : zMon (aNew n tg sz) := by
  intro S lc st M
  unfold aNew
  first | (split <;> first | exact trivial | exact z_mo_go (z_gr_rf rfl) | exact z_mo_gg (z_gr_rf rfl) | exact z_mo_br (z_gr_rf rfl) (z_gr_rf rfl) | exact z_mo_cl (z_gr_rf rfl) | exact z_mo_rt (z_gr_rf rfl) | exact z_mo_go (z_gr_nw _ _ _) | exact z_mo_gg (z_gr_nw _ _ _) | exact (z_gr_rf rfl : z_gr _ _ _)) | first | exact trivial | exact z_mo_go (z_gr_rf rfl) | exact z_mo_gg (z_gr_rf rfl) | exact z_mo_br (z_gr_rf rfl) (z_gr_rf rfl) | exact z_mo_cl (z_gr_rf rfl) | exact z_mo_rt (z_gr_rf rfl) | exact z_mo_go (z_gr_nw _ _ _) | exact z_mo_gg (z_gr_nw _ _ _) | exact (z_gr_rf rfl : z_gr _ _ _)
theorem m_aNewA (n tg : Nat) : zMon (aNewA n tg) := by
  intro S lc st M
  unfold aNewA
  first | (split <;> first | exact trivial | exact z_mo_go (z_gr_rf rfl) | exact z_mo_gg (z_gr_rf rfl) | exact z_mo_br (z_gr_rf rfl) (z_gr_rf rfl) | exact z_mo_cl (z_gr_rf rfl) | exact z_mo_rt (z_gr_rf rfl) | exact z_mo_go (z_gr_nw _ _ _) | exact z_mo_gg (z_gr_nw _ _ _) | exact (z_gr_rf rfl : z_gr _ _ _)) | first | exact trivial | exact z_mo_go (z_gr_rf rfl) | exact z_mo_gg (z_gr_rf rfl) | exact z_mo_br (z_gr_rf rfl) (z_gr_rf rfl) | exact z_mo_cl (z_gr_rf rfl) | exact z_mo_rt (z_gr_rf rfl) | exact z_mo_go (z_gr_nw _ _ _) | exact z_mo_gg (z_gr_nw _ _ _) | exact (z_gr_rf rfl : z_gr _ _ _)
theorem m_aIs (n : Nat) (al no : List Nat) : zMon (aIs n al no) := by
  intro S lc st M
  unfold aIs
  first | (split <;> first | exact trivial | exact z_mo_go (z_gr_rf rfl) | exact z_mo_gg (z_gr_rf rfl) | exact z_mo_br (z_gr_rf rfl) (z_gr_rf rfl) | exact z_mo_cl (z_gr_rf rfl) | exact z_mo_rt (z_gr_rf rfl) | exact z_mo_go (z_gr_nw _ _ _) | exact z_mo_gg (z_gr_nw _ _ _) | exact (z_gr_rf rfl : z_gr _ _ _)) | first | exact trivial | exact z_mo_go (z_gr_rf rfl) | exact z_mo_gg (z_gr_rf rfl) | exact z_mo_br (z_gr_rf rfl) (z_gr_rf rfl) | exact z_mo_cl (z_gr_rf rfl) | exact z_mo_rt (z_gr_rf rfl) | exact z_mo_go (z_gr_nw _ _ _) | exact z_mo_gg (z_gr_nw _ _ _) | exact (z_gr_rf rfl : z_gr _ _ _)
theorem m_aCast (n : Nat) (al : List Nat) : zMon (aCast n al) := by
  intro S lc st M
  unfold aCast
  first | (split <;> first | exact trivial | exact z_mo_go (z_gr_rf rfl) | exact z_mo_gg (z_gr_rf rfl) | exact z_mo_br (z_gr_rf rfl) (z_gr_rf rfl) | exact z_mo_cl (z_gr_rf rfl) | exact z_mo_rt (z_gr_rf rfl) | exact z_mo_go (z_gr_nw _ _ _) | exact z_mo_gg (z_gr_nw _ _ _) | exact (z_gr_rf rfl : z_gr _ _ _)) | first | exact trivial | exact z_mo_go (z_gr_rf rfl) | exact z_mo_gg (z_gr_rf rfl) | exact z_mo_br (z_gr_rf rfl) (z_gr_rf rfl) | exact z_mo_cl (z_gr_rf rfl) | exact z_mo_rt (z_gr_rf rfl) | exact z_mo_go (z_gr_nw _ _ _) | exact z_mo_gg (z_gr_nw _ _ _) | exact (z_gr_rf rfl : z_gr _ _ _)
theorem m_aCopy (n : Nat) : zMon (aCopy n) := by
  intro S lc st M
  unfold aCopy
  first | (split <;> first | exact trivial | exact z_mo_go (z_gr_rf rfl) | exact z_mo_gg (z_gr_rf rfl) | exact z_mo_br (z_gr_rf rfl) (z_gr_rf rfl) | exact z_mo_cl (z_gr_rf rfl) | exact z_mo_rt (z_gr_rf rfl) | exact z_mo_go (z_gr_nw _ _ _) | exact z_mo_gg (z_gr_nw _ _ _) | exact (z_gr_rf rfl : z_gr _ _ _)) | first | exact trivial | exact z_mo_go (z_gr_rf rfl) | exact z_mo_gg (z_gr_rf rfl) | exact z_mo_br (z_gr_rf rfl) (z_gr_rf rfl) | exact z_mo_cl (z_gr_rf rfl) | exact z_mo_rt (z_gr_rf rfl) | exact z_mo_go (z_gr_nw _ _ _) | exact z_mo_gg (z_gr_nw _ _ _) | exact (z_gr_rf rfl : z_gr _ _ _)
theorem m_aCall (n ty mi na : Nat) : zMon (aCall n ty mi na) := by
  intro S lc st M
  unfold aCall
  first | (split <;> first | exact trivial | exact z_mo_go (z_gr_rf rfl) | exact z_mo_gg (z_gr_rf rfl) | exact z_mo_br (z_gr_rf rfl) (z_gr_rf rfl) | exact z_mo_cl (z_gr_rf rfl) | exact z_mo_rt (z_gr_rf rfl) | exact z_mo_go (z_gr_nw _ _ _) | exact z_mo_gg (z_gr_nw _ _ _) | exact (z_gr_rf rfl : z_gr _ _ _)) | first | exact trivial | exact z_mo_go (z_gr_rf rfl) | exact z_mo_gg (z_gr_rf rfl) | exact z_mo_br (z_gr_rf rfl) (z_gr_rf rfl) | exact z_mo_cl (z_gr_rf rfl) | exact z_mo_rt (z_gr_rf rfl) | exact z_mo_go (z_gr_nw _ _ _) | exact z_mo_gg (z_gr_nw _ _ _) | exact (z_gr_rf rfl : z_gr _ _ _)
theorem m_aCallV (n ty mi na : Nat) (al : List Nat) : zMon (aCallV n ty mi na al) := by
  intro S lc st M
  unfold aCallV
  first | (split <;> first | exact trivial | exact z_mo_go (z_gr_rf rfl) | exact z_mo_gg (z_gr_rf rfl) | exact z_mo_br (z_gr_rf rfl) (z_gr_rf rfl) | exact z_mo_cl (z_gr_rf rfl) | exact z_mo_rt (z_gr_rf rfl) | exact z_mo_go (z_gr_nw _ _ _) | exact z_mo_gg (z_gr_nw _ _ _) | exact (z_gr_rf rfl : z_gr _ _ _)) | first | exact trivial | exact z_mo_go (z_gr_rf rfl) | exact z_mo_gg (z_gr_rf rfl) | exact z_mo_br (z_gr_rf rfl) (z_gr_rf rfl) | exact z_mo_cl (z_gr_rf rfl) | exact z_mo_rt (z_gr_rf rfl) | exact z_mo_go (z_gr_nw _ _ _) | exact z_mo_gg (z_gr_nw _ _ _) | exact (z_gr_rf rfl : z_gr _ _ _)
theorem m_aObj (n : Nat) : zMon (aObj n) := by
  intro S lc st M
  unfold aObj
  first | (split <;> first | exact trivial | exact z_mo_go (z_gr_rf rfl) | exact z_mo_gg (z_gr_rf rfl) | exact z_mo_br (z_gr_rf rfl) (z_gr_rf rfl) | exact z_mo_cl (z_gr_rf rfl) | exact z_mo_rt (z_gr_rf rfl) | exact z_mo_go (z_gr_nw _ _ _) | exact z_mo_gg (z_gr_nw _ _ _) | exact (z_gr_rf rfl : z_gr _ _ _)) | first | exact trivial | exact z_mo_go (z_gr_rf rfl) | exact z_mo_gg (z_gr_rf rfl) | exact z_mo_br (z_gr_rf rfl) (z_gr_rf rfl) | exact z_mo_cl (z_gr_rf rfl) | exact z_mo_rt (z_gr_rf rfl) | exact z_mo_go (z_gr_nw _ _ _) | exact z_mo_gg (z_gr_nw _ _ _) | exact (z_gr_rf rfl : z_gr _ _ _)
theorem m_aRI : zMon (aRI ) := by
  intro S lc st M
  unfold aRI
  first | (split <;> first | exact trivial | exact z_mo_go (z_gr_rf rfl) | exact z_mo_gg (z_gr_rf rfl) | exact z_mo_br (z_gr_rf rfl) (z_gr_rf rfl) | exact z_mo_cl (z_gr_rf rfl) | exact z_mo_rt (z_gr_rf rfl) | exact z_mo_go (z_gr_nw _ _ _) | exact z_mo_gg (z_gr_nw _ _ _) | exact (z_gr_rf rfl : z_gr _ _ _)) | first | exact trivial | exact z_mo_go (z_gr_rf rfl) | exact z_mo_gg (z_gr_rf rfl) | exact z_mo_br (z_gr_rf rfl) (z_gr_rf rfl) | exact z_mo_cl (z_gr_rf rfl) | exact z_mo_rt (z_gr_rf rfl) | exact z_mo_go (z_gr_nw _ _ _) | exact z_mo_gg (z_gr_nw _ _ _) | exact (z_gr_rf rfl : z_gr _ _ _)
theorem m_aRZ : zMon (aRZ ) := by
  intro S lc st M
  unfold aRZ
  first | (split <;> first | exact trivial | exact z_mo_go (z_gr_rf rfl) | exact z_mo_gg (z_gr_rf rfl) | exact z_mo_br (z_gr_rf rfl) (z_gr_rf rfl) | exact z_mo_cl (z_gr_rf rfl) | exact z_mo_rt (z_gr_rf rfl) | exact z_mo_go (z_gr_nw _ _ _) | exact z_mo_gg (z_gr_nw _ _ _) | exact (z_gr_rf rfl : z_gr _ _ _)) | first | exact trivial | exact z_mo_go (z_gr_rf rfl) | exact z_mo_gg (z_gr_rf rfl) | exact z_mo_br (z_gr_rf rfl) (z_gr_rf rfl) | exact z_mo_cl (z_gr_rf rfl) | exact z_mo_rt (z_gr_rf rfl) | exact z_mo_go (z_gr_nw _ _ _) | exact z_mo_gg (z_gr_nw _ _ _) | exact (z_gr_rf rfl : z_gr _ _ _)
theorem m_aRJ : zMon (aRJ ) := by
  intro S lc st M
  unfold aRJ
  first | (split <;> first | exact trivial | exact z_mo_go (z_gr_rf rfl) | exact z_mo_gg (z_gr_rf rfl) | exact z_mo_br (z_gr_rf rfl) (z_gr_rf rfl) | exact z_mo_cl (z_gr_rf rfl) | exact z_mo_rt (z_gr_rf rfl) | exact z_mo_go (z_gr_nw _ _ _) | exact z_mo_gg (z_gr_nw _ _ _) | exact (z_gr_rf rfl : z_gr _ _ _)) | first | exact trivial | exact z_mo_go (z_gr_rf rfl) | exact z_mo_gg (z_gr_rf rfl) | exact z_mo_br (z_gr_rf rfl) (z_gr_rf rfl) | exact z_mo_cl (z_gr_rf rfl) | exact z_mo_rt (z_gr_rf rfl) | exact z_mo_go (z_gr_nw _ _ _) | exact z_mo_gg (z_gr_nw _ _ _) | exact (z_gr_rf rfl : z_gr _ _ _)
theorem m_aRD : zMon (aRD ) := by
  intro S lc st M
  unfold aRD
  first | (split <;> first | exact trivial | exact z_mo_go (z_gr_rf rfl) | exact z_mo_gg (z_gr_rf rfl) | exact z_mo_br (z_gr_rf rfl) (z_gr_rf rfl) | exact z_mo_cl (z_gr_rf rfl) | exact z_mo_rt (z_gr_rf rfl) | exact z_mo_go (z_gr_nw _ _ _) | exact z_mo_gg (z_gr_nw _ _ _) | exact (z_gr_rf rfl : z_gr _ _ _)) | first | exact trivial | exact z_mo_go (z_gr_rf rfl) | exact z_mo_gg (z_gr_rf rfl) | exact z_mo_br (z_gr_rf rfl) (z_gr_rf rfl) | exact z_mo_cl (z_gr_rf rfl) | exact z_mo_rt (z_gr_rf rfl) | exact z_mo_go (z_gr_nw _ _ _) | exact z_mo_gg (z_gr_nw _ _ _) | exact (z_gr_rf rfl : z_gr _ _ _)
theorem m_aRR : zMon (aRR ) := by
  intro S lc st M
  unfold aRR
  first | (split <;> first | exact trivial | exact z_mo_go (z_gr_rf rfl) | exact z_mo_gg (z_gr_rf rfl) | exact z_mo_br (z_gr_rf rfl) (z_gr_rf rfl) | exact z_mo_cl (z_gr_rf rfl) | exact z_mo_rt (z_gr_rf rfl) | exact z_mo_go (z_gr_nw _ _ _) | exact z_mo_gg (z_gr_nw _ _ _) | exact (z_gr_rf rfl : z_gr _ _ _)) | first | exact trivial | exact z_mo_go (z_gr_rf rfl) | exact z_mo_gg (z_gr_rf rfl) | exact z_mo_br (z_gr_rf rfl) (z_gr_rf rfl) | exact z_mo_cl (z_gr_rf rfl) | exact z_mo_rt (z_gr_rf rfl) | exact z_mo_go (z_gr_nw _ _ _) | exact z_mo_gg (z_gr_nw _ _ _) | exact (z_gr_rf rfl : z_gr _ _ _)
theorem m_aRV : zMon (aRV ) := by
  intro S lc st M
  unfold aRV
  first | (split <;> first | exact trivial | exact z_mo_go (z_gr_rf rfl) | exact z_mo_gg (z_gr_rf rfl) | exact z_mo_br (z_gr_rf rfl) (z_gr_rf rfl) | exact z_mo_cl (z_gr_rf rfl) | exact z_mo_rt (z_gr_rf rfl) | exact z_mo_go (z_gr_nw _ _ _) | exact z_mo_gg (z_gr_nw _ _ _) | exact (z_gr_rf rfl : z_gr _ _ _)) | first | exact trivial | exact z_mo_go (z_gr_rf rfl) | exact z_mo_gg (z_gr_rf rfl) | exact z_mo_br (z_gr_rf rfl) (z_gr_rf rfl) | exact z_mo_cl (z_gr_rf rfl) | exact z_mo_rt (z_gr_rf rfl) | exact z_mo_go (z_gr_nw _ _ _) | exact z_mo_gg (z_gr_nw _ _ _) | exact (z_gr_rf rfl : z_gr _ _ _)
theorem m_aSw (d : Nat) (l : List (Int32 × Nat)) : zMon (aSw d l) := by
  intro S lc st M
  unfold aSw
  split
  · exact ⟨z_mo_sw l, z_gr_rf rfl⟩
  · exact trivial
theorem m_aCallU (n ty na : Nat) (l : List (Nat × Nat)) : zMon (aCallU n ty na l) := by
  intro S lc st M
  unfold aCallU
  split <;> first | exact trivial | exact z_mo_cl (z_gr_rf rfl)
theorem z_mon_on {S : zS} {M : zM} {o : zO} (ho : z_mo S M o) {k : zF → zR} {c : Nat → List Value → zM → zR} {r : Option Value × zM} (hk : ∀ F r, k F = some r → z_gr S F.2.2.2 r.2) (hc : ∀ m as M r, c m as M = some r → z_gr S M r.2) (h : z_on o k c = some r) : z_gr S M r.2 := by
  have tr : ∀ {a b c : zM}, z_gr S a b → z_gr S b c → z_gr S a c := fun h1 h2 => ⟨Nat.le_trans h1.1 h2.1, Nat.le_trans h1.2 h2.2⟩
  match o, ho, h with
  | none, _, h => cases h
  | some (false, .inl b), _, h => cases h
  | some (true, .inl b), ho, h =>
    have h : z_pick k b.1 b.2 = some r := h
    have ho : (∀ x ∈ b.1, z_gr S M x.2.2.2.2) ∧ z_gr S M b.2.2.2.2 := ho
    obtain ⟨bs, F⟩ := b
    have key : ∀ (bs : List (Bool × zF)), (∀ x ∈ bs, z_gr S M x.2.2.2.2) → z_pick k bs F = some r → z_gr S M r.2 := by
      intro bs
      induction bs with
      | nil => exact fun _ h => tr ho.2 (hk _ _ h)
      | cons x rest ih =>
        intro ho2 h
        unfold z_pick at h
        cases hx : x.1
        · rw [hx] at h
          exact ih (fun y hy => ho2 y (List.mem_cons_of_mem _ hy)) h
        · rw [hx] at h
          exact tr (ho2 x List.mem_cons_self) (hk _ _ h)
    exact key bs ho.1 h
  | some (false, .inr (.inl x)), _, h => cases h
  | some (true, .inr (.inl x)), ho, h =>
    obtain ⟨q, F', h0, h1, -⟩ := z_ret_has _ _ _ h
    obtain ⟨-, q2, F2, e1, e2, rfl⟩ := z_cl_spec (g := true) (ty := x.1) (mi := x.2.1) (as := x.2.2.1) (F := x.2.2.2) h
    exact tr ho (tr (hc _ _ _ _ e1) (hk _ _ e2))
  | some (false, .inr (.inr q)), _, h => cases h
  | some (true, .inr (.inr q)), ho, h =>
    have h : q = r := Option.some.inj h
    subst h
    exact ho
