-- ===== constructors, by gen94.py =====
def rp_s2 (g : Nat → Int32) : ra_S := (fun i => bif Nat.beq i 88 then g else (bif Nat.beq i 86 then (fun k => bif Nat.beq k 5 then -1 else (bif Nat.beq k 39 then -1 else (bif Nat.beq k 40 then -1 else (bif Nat.beq k 41 then -1 else (bif Nat.beq k 48 then -1 else (0)))))) else fun _ => 0), fun _ _ => 0)
def rp_md (υ : ra_S) : Prop := (υ.1 86 1 = 0 ∧ υ.1 86 4 = 0 ∧ υ.1 86 5 = -1) ∧ (υ.1 86 12 = 0 ∧ υ.1 86 13 = 0 ∧ υ.1 86 14 = 0 ∧ υ.1 86 15 = 0 ∧ υ.1 86 16 = 15 ∧ υ.1 86 17 = 0) ∧ (υ.1 86 39 = -1 ∧ υ.1 86 40 = -1 ∧ υ.1 86 41 = -1) ∧ (υ.1 86 43 = 0 ∧ υ.1 86 47 = 0 ∧ υ.1 86 48 = -1) ∧ ∀ i, i < 63 → υ.1 88 i = rz_chars.getD i 0
theorem rp_model {g : Nat → Int32} (hg : ∀ j, j < 63 → g j = rz_chars.getD j 0) : ∃ υ : ra_S, ra_D (rp_lay86, none, 99999, rp_mM) 629 [some (.ref 86)] [] (rp_s2 g) = some (.inl none, υ) ∧ rp_md υ := by
  obtain ⟨υ, e, k1, -, -, ⟨k2, k3, k4, k5, k6, k7⟩, ⟨k8, k9, k10⟩, k11, -⟩ := rp_m_keep (ra_ui (ra_ui (ra_ui (ra_ui (ra_ui (ra_ui (ra_ui (rp_s2 g) 86 18 (0 : Int32)) 86 19 (0 : Int32)) 86 20 (0 : Int32)) 86 21 (0 : Int32)) 86 22 (15 : Int32)) 86 23 (0 : Int32)) 86 24 (0 : Int32))
  refine ⟨υ, ?_, ⟨?_, ?_, ?_⟩, ⟨k2, k3, k4, k5, k6, k7⟩, ⟨?_, ?_, ?_⟩, ⟨k10, k8, k9⟩, fun i hi => ?_⟩
  · rw [p_M_629, p_155, ra_kV, p_M_633, e]
    show ra_D (rp_lay86, none, 99999, rp_mM) 637 [some (.ref 86)] [] υ = _
    rw [p_M_637]
  · rw [k11 1 (by omega) (by omega) (by omega) (by omega)]; rfl
  · rw [k11 4 (by omega) (by omega) (by omega) (by omega)]; rfl
  · rw [k11 5 (by omega) (by omega) (by omega) (by omega)]; rfl
  · rw [k11 39 (by omega) (by omega) (by omega) (by omega)]; rfl
  · rw [k11 40 (by omega) (by omega) (by omega) (by omega)]; rfl
  · rw [k11 41 (by omega) (by omega) (by omega) (by omega)]; rfl
  · rw [k1 88 (by decide) (by omega) (by decide)]
    exact hg i hi
def rp_fk86 : List (Bool ⊕ Nat) := [.inr 87, .inl false, .inl false, .inr 88, .inl false, .inl false, .inl false, .inl false, .inl false, .inl false, .inl false, .inl false, .inl false, .inl false, .inl false, .inl false, .inl false, .inl false, .inl false, .inl false, .inl false, .inl false, .inl false, .inl false, .inl false, .inr 89, .inr 90, .inr 91, .inr 92, .inr 93, .inr 94, .inr 95, .inr 96, .inr 97, .inr 98, .inr 99, .inr 100, .inr 101, .inr 102, .inl false, .inl false, .inl false, .inl true, .inl false, .inr 103, .inr 104, .inr 105, .inl false, .inl false, .inr 106, .inr 107, .inr 108, .inr 109, .inr 110, .inr 111, .inr 112, .inr 113, .inr 114]
/-- an object whose fields are told by another list -/
theorem rp_fv {D : va_G} {a ci : Nat} {fs fs' : List Value} {q : vw_C} {H : Heap} (hc : vwCl[ci]? = some q) (h : va_at D vwCl (a, .inr (ci, fs)) H) (hv : ∀ k, k < q.2.2 → vp_V fs k = vp_V fs' k) : va_at D vwCl (a, .inr (ci, fs')) H := by
  obtain ⟨r, h1, h2⟩ := h
  have hr : r = q := Option.some.inj (h1.symm.trans hc)
  subst hr
  exact ⟨r, h1, h2.to hv⟩
theorem rp_mi {f : Nat → (Bool ⊕ Nat) → Value} {l : List (Bool ⊕ Nat)} (k : Nat) : vp_V (l.mapIdx f) k = ((l[k]?).map (f k)).getD .null := by
  unfold vp_V
  rw [List.getD_eq_getElem?_getD, List.getElem?_mapIdx]
