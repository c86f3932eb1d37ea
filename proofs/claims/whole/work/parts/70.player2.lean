-- ===== text: a player's whole line =====
section RZP
variable {t : Nat → Nat} {N n : Nat} {k : Nat × Nat} {τ ψ : ra_S}
theorem rz_Q1_u {np : Nat} {x : Int32} (h : rz_Q1 n np τ ψ) : rz_Q1 n np (ra_ui τ 1 7 x) ψ := by
  obtain ⟨nb, nl, nw, q⟩ := h
  have C : ∀ c, c ≠ 1 → (ra_ui τ 1 7 x).1 c = τ.1 c := fun c hc => ra_ui_1 c hc
  refine ⟨nb, nl, nw, ?_⟩
  simp only [C 29 (by decide), C 30 (by decide), C 31 (by decide), C 32 (by decide), C 33 (by decide), C 34 (by decide), C 35 (by decide), C 36 (by decide), C 37 (by decide), C 38 (by decide), C 39 (by decide), C 40 (by decide), C 41 (by decide), C 42 (by decide), C 43 (by decide), C 44 (by decide), C 45 (by decide), C 46 (by decide), C 47 (by decide), C 5 (by decide), C 6 (by decide), C 7 (by decide), C 8 (by decide), C 9 (by decide)]
  exact q
theorem rz_playerL (h : rz_J t N n k τ ψ) (hQ : rz_Q n τ ψ) (hn : 1 ≤ n) : rz_Ln t N n ((ra_C 30 [.ref 1, .ref 29] τ).bind (ra_ki fun x s => if x = (0 : Int32) then ra_I 0 s else ra_C 31 [.ref 1, .ref 35] s)) (ra_C 166 [.ref 86] ψ) τ ψ := by
  rcases rz_playA h hQ with ⟨υ, φ, n', k', np, a1, a2, J, nn, Q1, g1, g2⟩ | ⟨υ, φ, a1, a2, a3, a4, a5⟩
  · obtain ⟨nb, nl, nw, q1, q2, q3, ⟨d1, d2, d3⟩, q5, q6⟩ := id Q1
    have hnp : np + 1 ≤ 8 := d3.2.2.1
    rw [a1, ra_kI, rz_10, a2, e_31, d1, nI_pred, show (0 : Int32) = nI 0 from rfl]
    have ms : rz_ms k' ≤ 1 := by unfold rz_ms; split <;> omega
    exact rz_Ln_tr (rz_hab (np := np) (by omega) _ n' k' (ra_ui υ 1 7 0) φ 0 0 none (Nat.le_refl _) (rz_J_c J (fun c hc => ra_ui_1 c (by omega))) (rz_Q1_u Q1) (by omega) (by rw [ra_ui_get, if_pos ⟨rfl, rfl⟩]) (Or.inl rfl)) nn (g1.tr (rz_gct_ui υ (by omega))) g2
  · rw [a1, ra_kI, rz_00, a2]
    exact Or.inr ⟨υ, φ, rfl, rfl, a3, a4, a5⟩
end RZP
