-- ===== text: a player's line =====
section RZE
variable {t : Nat → Nat} {N : Nat}
def rz_ms (k : Nat × Nat) : Nat := if k.1 = 0 then 0 else 1
theorem rz_hab {np : Nat} (hnp : np < 8) : ∀ (d n : Nat) (k : Nat × Nat) (τ ψ : ra_S) (j : Nat) (dt : Int32) (o4 : Option Value), N - n + rz_ms k ≤ d → rz_J t N n k τ ψ → rz_Q1 n np τ ψ → j + rz_ms k ≤ n → τ.1 1 7 = dt → (dt = 0 ∨ dt = 1) →
    rz_Ln t N n (ra_D (ra_lay, none, 99999, ra_m31) 14 [some (.ref 1), some (.ref 35), some (.int (nI np)), some (.int (nI j)), o4] [] τ) (ra_D (ra_lay, none, 99999, ra_m166) 154 [some (.ref 86), some (.int (nI (40 + 5 * np))), some (.int dt)] [] ψ) τ ψ := by
  intro d
  induction d with
  | zero =>
    intro n k τ ψ j dt o4 hd h hQ hj h7 h01
    have k0 : k.1 = 0 := by
      unfold rz_ms at hd
      by_cases z : k.1 = 0
      · exact z
      · rw [if_neg z] at hd; omega
    have n8 : ¬ k = (6, 8) := fun q => by rw [q] at k0; cases k0
    have n9 : ¬ k = (6, 9) := fun q => by rw [q] at k0; cases k0
    have n10 : ¬ k = (6, 10) := fun q => by rw [q] at k0; cases k0
    have k8 : ra_C 151 [.ref 86, .int 8] ψ = ra_I (if k = (6, 8) then 1 else 0) ψ := rz_m_key h (w := 8) (by omega)
    have k9 : ra_C 151 [.ref 86, .int 9] ψ = ra_I (if k = (6, 9) then 1 else 0) ψ := rz_m_key h (w := 9) (by omega)
    have k10 : ra_C 151 [.ref 86, .int 10] ψ = ra_I (if k = (6, 10) then 1 else 0) ψ := rz_m_key h (w := 10) (by omega)
    have d2 : ψ.1 86 20 = nI np := by obtain ⟨_, _, _, _, _, _, ⟨_, d2, _⟩, _⟩ := hQ; exact d2
    rw [e_31_14, if_neg (show ¬ τ.1 2 5 = (13 : Int32) from fun q => n8 ((rz_c_key h (w := 8) (by omega)).mp q)), if_neg (show ¬ τ.1 2 5 = (14 : Int32) from fun q => n9 ((rz_c_key h (w := 9) (by omega)).mp q)), if_neg (show ¬ τ.1 2 5 = (15 : Int32) from fun q => n10 ((rz_c_key h (w := 10) (by omega)).mp q)), e_166_154, k8, ra_kI, rz_f n8, k9, ra_kI, rz_f n9, k10, ra_kI, rz_f n10, d2, nI_1, ite_self]
    exact Or.inl ⟨τ, _, n, k, rfl, rfl, rz_J_m h (fun j hj => by rw [ra_ui_get, if_neg (fun q => by omega)]) ⟨ra_ui_1 87 (by decide), ra_ui_1 88 (by decide)⟩, Nat.le_refl _, rz_Q1_end hQ, rz_gct.rf τ, rz_gmt_ui ψ (by omega)⟩
  | succ d ih =>
    intro n k τ ψ j dt o4 hd h hQ hj h7 h01
    have k8 : ra_C 151 [.ref 86, .int 8] ψ = ra_I (if k = (6, 8) then 1 else 0) ψ := rz_m_key h (w := 8) (by omega)
    have k9 : ra_C 151 [.ref 86, .int 9] ψ = ra_I (if k = (6, 9) then 1 else 0) ψ := rz_m_key h (w := 9) (by omega)
    have k10 : ra_C 151 [.ref 86, .int 10] ψ = ra_I (if k = (6, 10) then 1 else 0) ψ := rz_m_key h (w := 10) (by omega)
    have c8 : τ.1 2 5 = (13 : Int32) ↔ k = (6, 8) := rz_c_key h (w := 8) (by omega)
    have c9 : τ.1 2 5 = (14 : Int32) ↔ k = (6, 9) := rz_c_key h (w := 9) (by omega)
    have c10 : τ.1 2 5 = (15 : Int32) ↔ k = (6, 10) := rz_c_key h (w := 10) (by omega)
    have hN := h.1.2.1
    have hnN := h.1.2.2.2.1
    have key : ∀ (n' : Nat) (k' : Nat × Nat), rz_aft n n' k' → n' ≤ N → k.1 ≠ 0 → N - n' + rz_ms k' ≤ d ∧ j + 1 + rz_ms k' ≤ n' := fun n' k' aft hn' k0 => by
      unfold rz_ms at hd hj ⊢
      rw [if_neg k0] at hd hj
      obtain ⟨a1, a2⟩ := aft
      by_cases z : k'.1 = 0
      · rw [if_pos z]; omega
      · have := a2 z
        rw [if_neg z]; omega
    by_cases n8 : k = (6, 8)
    · have k0 : k.1 ≠ 0 := by rw [n8]; decide
      have ms : rz_ms k = 1 := if_neg k0
      have n10 : ¬ k = (6, 10) := fun q => by rw [n8] at q; cases q
      rw [e_31_14, if_pos (show nI j < (800 : Int32) from nI_lt (b := 800) (by omega) (by omega)), if_pos (c8.mpr n8), e_31_45, e_166_154, k8, ra_kI, rz_t n8, e_166_181, k10, ra_kI, rz_f n10, k8, ra_kI, if_pos n8]
      rcases rz_link0 h hQ (c8.mpr n8) with ⟨υ, φ, n', k', a1, a2, J1, aft, Q1, g1, g2, u7⟩ | ⟨υ, φ, a1, a2, a3, a4, a5⟩
      · obtain ⟨m1, m2⟩ := key n' k' aft J1.1.2.2.2.1 k0
        rw [a1, ra_kI, a2, ra_kI, rz_10, e_31_80, rz_10, nI_1]
        exact rz_Ln_tr (ih n' k' υ φ (j + 1) dt _ m1 J1 Q1 m2 (u7.trans h7) h01) aft.1 g1 g2
      · rw [a1, ra_kI, a2, ra_kI, rz_00, e_31_80, rz_00]
        exact Or.inr ⟨υ, φ, rfl, rfl, a3, a4, a5⟩
    by_cases n9 : k = (6, 9)
    · have k0 : k.1 ≠ 0 := by rw [n9]; decide
      have ms : rz_ms k = 1 := if_neg k0
      have n10 : ¬ k = (6, 10) := fun q => by rw [n9] at q; cases q
      rw [e_31_14, if_pos (show nI j < (800 : Int32) from nI_lt (b := 800) (by omega) (by omega)), if_neg (fun q => n8 (c8.mp q)), if_pos (c9.mpr n9), e_31_45, e_166_154, k8, ra_kI, rz_f n8, k9, ra_kI, rz_t n9, e_166_181, k10, ra_kI, rz_f n10, k8, ra_kI, if_neg n8]
      rcases rz_link1 h hQ (c9.mpr n9) with ⟨υ, φ, n', k', a1, a2, J1, aft, Q1, g1, g2, u7⟩ | ⟨υ, φ, a1, a2, a3, a4, a5⟩
      · obtain ⟨m1, m2⟩ := key n' k' aft J1.1.2.2.2.1 k0
        rw [a1, ra_kI, a2, ra_kI, rz_10, e_31_80, rz_10, nI_1]
        exact rz_Ln_tr (ih n' k' υ φ (j + 1) dt _ m1 J1 Q1 m2 (u7.trans h7) h01) aft.1 g1 g2
      · rw [a1, ra_kI, a2, ra_kI, rz_00, e_31_80, rz_00]
        exact Or.inr ⟨υ, φ, rfl, rfl, a3, a4, a5⟩
    by_cases n10 : k = (6, 10)
    · have k0 : k.1 ≠ 0 := by rw [n10]; decide
      have ms : rz_ms k = 1 := if_neg k0
      have i4 : nI (40 + 5 * np) + (4 : Int32) = nI (40 + 5 * np + 4) := nI_add _ 4
      rw [e_31_14, if_pos (show nI j < (800 : Int32) from nI_lt (b := 800) (by omega) (by omega)), if_neg (fun q => n8 (c8.mp q)), if_neg (fun q => n9 (c9.mp q)), if_pos (c10.mpr n10), e_166_154, k8, ra_kI, rz_f n8, k9, ra_kI, rz_f n9, k10, ra_kI, rz_t n10, e_166_181, k10, ra_kI, rz_t n10, i4]
      rcases rz_dare h hQ dt h7 h01 (K := fun _ s8 => if 0 ≤ (nI (40 + 5 * np + 4)).toInt ∧ (nI (40 + 5 * np + 4)).toInt < 80 then ra_D (ra_lay, none, 99999, ra_m166) 154 [some (.ref 86), some (.int (nI (40 + 5 * np))), some (.int 1)] [] (ra_ui s8 93 (nI (40 + 5 * np + 4)).toNatClampNeg (s8.1 86 11)) else none) with ⟨υ, φ, n', k', a1, rfl, a2, J1, aft, Q1, g1, g2, u7⟩ | ⟨υ, φ, a1, a2, a3, a4, a5⟩
      · obtain ⟨m1, m2⟩ := key n' k' aft J1.1.2.2.2.1 k0
        rw [a1, ra_kI, rz_00, a2, rz_ig (by omega) (by omega), nI_clamp (by omega), e_31_80, rz_10, nI_1]
        exact rz_Ln_tr (ih n' k' υ _ (j + 1) 1 _ m1 J1 Q1 m2 u7 (Or.inr rfl)) aft.1 g1 g2
      · rw [a1, ra_kI, a2, e_31_80, rz_00]
        exact Or.inr ⟨υ, φ, rfl, rfl, a3, a4, a5⟩
    have d2 : ψ.1 86 20 = nI np := by obtain ⟨_, _, _, _, _, _, ⟨_, d2, _⟩, _⟩ := hQ; exact d2
    rw [e_31_14, if_neg (fun q => n8 (c8.mp q)), if_neg (fun q => n9 (c9.mp q)), if_neg (fun q => n10 (c10.mp q)), e_166_154, k8, ra_kI, rz_f n8, k9, ra_kI, rz_f n9, k10, ra_kI, rz_f n10, d2, nI_1, ite_self]
    exact Or.inl ⟨τ, _, n, k, rfl, rfl, rz_J_m h (fun j hj => by rw [ra_ui_get, if_neg (fun q => by omega)]) ⟨ra_ui_1 87 (by decide), ra_ui_1 88 (by decide)⟩, Nat.le_refl _, rz_Q1_end hQ, rz_gct.rf τ, rz_gmt_ui ψ (by omega)⟩
end RZE
