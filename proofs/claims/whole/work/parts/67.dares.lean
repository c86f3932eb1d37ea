-- ===== text: dares, and the end of a player's line; written by wip/whole/gen67.py =====
section RZD
variable {t : Nat → Nat} {N n : Nat} {k : Nat × Nat} {τ ψ : ra_S}
theorem rz_Ln_tr {n1 : Nat} {e f : Option ((Option Value ⊕ (ra_L × List Value)) × ra_S)} {τ1 ψ1 : ra_S} (h : rz_Ln t N n1 e f τ1 ψ1) (hn : n ≤ n1) (g1 : rz_gct τ τ1) (g2 : rz_gmt ψ ψ1) : rz_Ln t N n e f τ ψ := by
  rcases h with ⟨υ, φ, n', k', a1, a2, a3, a4, a5, a6, a7⟩ | ⟨υ, φ, a1, a2, a3, a4, a5⟩
  · exact Or.inl ⟨υ, φ, n', k', a1, a2, a3, Nat.le_trans hn a4, a5, g1.tr a6, g2.tr a7⟩
  · exact Or.inr ⟨υ, φ, a1, a2, a3, g1.tr a4, g2.tr a5⟩
/-- the player is read -/
theorem rz_Q1_end {np : Nat} (h : rz_Q1 n np τ ψ) : rz_Q n τ (ra_ui ψ 86 20 (nI (np + 1))) := by
  obtain ⟨nb, nl, nw, q1, q2, q3, ⟨d1, d2, d3⟩, q5, q6⟩ := h
  refine ⟨nb, nl, np + 1, nw, ?_⟩
  have M : ∀ c, c ≠ 86 → (ra_ui ψ 86 20 (nI (np + 1))).1 c = ψ.1 c := fun c hc => ra_ui_1 c hc
  have M86 : ∀ j, j ≠ 20 → (ra_ui ψ 86 20 (nI (np + 1))).1 86 j = ψ.1 86 j := fun j hj => by rw [ra_ui_get, if_neg (fun q => hj q.2)]
  simp only [M 89 (by decide), M 90 (by decide), M 91 (by decide), M 92 (by decide), M 93 (by decide), M 96 (by decide), M 97 (by decide), M 98 (by decide), M 99 (by decide), M 100 (by decide), M86 18 (by decide), M86 19 (by decide), M86 21 (by decide), M86 22 (by decide), M86 23 (by decide), M86 24 (by decide)]
  refine ⟨q1, q2, q3, ⟨d1, by rw [ra_ui_get, if_pos ⟨rfl, rfl⟩], d3.2.2⟩, ?_, ?_⟩
  · obtain ⟨w1, w2, w3, w4⟩ := q5
    refine ⟨w1, w2, w3, fun w hw => ?_⟩
    obtain ⟨⟨p, u1, u2⟩, u3⟩ := w4 w hw
    exact ⟨⟨p, by omega, u2⟩, u3⟩
  · obtain ⟨Lk, g1, g2, g3, g4, g5⟩ := q6
    have s5 := g5 np (by omega)
    have s50 := s5.1.1
    have s51 := s5.2.1.1
    exact ⟨Lk, g1, by omega, g3, g4, g5⟩
theorem rz_dare (h : rz_J t N n k τ ψ) {np : Nat} (hQ : rz_Q1 n np τ ψ) (dt : Int32) (h7 : τ.1 1 7 = dt) (hd : dt = 0 ∨ dt = 1) {K : Int32 → ra_S → Option ((Option Value ⊕ (ra_L × List Value)) × ra_S)} :
    (∃ (υ φ : ra_S) (n' : Nat) (k' : Nat × Nat), ra_C 32 [.ref 1, .int (nI np), .ref 35] τ = ra_I 1 υ ∧ dt = 0 ∧ (ra_C 149 [.ref 86] ψ).bind (ra_kv fun s7 => (ra_C 153 [.ref 86, .int 0, .int 99] s7).bind (ra_ki fun x9 s8 => (if x9 = (0 : Int32) then some (.inl (some (.int 0)), s8) else K x9 s8))) = K 1 φ ∧ rz_J t N n' k' υ (ra_ui φ 93 (40 + 5 * np + 4) (φ.1 86 11)) ∧ rz_aft n n' k' ∧ rz_Q1 n' np υ (ra_ui φ 93 (40 + 5 * np + 4) (φ.1 86 11)) ∧ rz_gct τ υ ∧ rz_gmt ψ (ra_ui φ 93 (40 + 5 * np + 4) (φ.1 86 11)) ∧ υ.1 1 7 = 1) ∨
    (∃ υ φ : ra_S, ra_C 32 [.ref 1, .int (nI np), .ref 35] τ = ra_I 0 υ ∧ (if dt = (0 : Int32) then (ra_C 149 [.ref 86] ψ).bind (ra_kv fun s7 => (ra_C 153 [.ref 86, .int 0, .int 99] s7).bind (ra_ki fun x9 s8 => (if x9 = (0 : Int32) then some (.inl (some (.int 0)), s8) else K x9 s8))) else (ra_C 145 [.ref 86, .int 3] ψ).bind (ra_ki fun x11 s10 => (if x11 = 0 ∨ x11 = 1 then some (.inl (some (.int x11)), s10) else none))) = ra_I 0 φ ∧ rz_Fl υ φ ∧ rz_gct τ υ ∧ rz_gmt ψ φ) := by
  obtain ⟨nb, nl, nw, q1, q2, q3, ⟨d1, d2, d3⟩, q5, q6⟩ := id hQ
  have hnp : np + 1 ≤ 8 := d3.2.2.1
  rw [e_32, h7]
  rcases hd with rfl | rfl
  case inr =>
    rw [rz_10, rz_10, rz_c_fail, ra_kI, rz_b01, e_145, ra_kI, rz_b01]
    exact Or.inr ⟨_, _, rfl, rfl, rz_Fl_of h _, (rz_fn_fail _ _ _).gct, (rz_fp_fail _ _ _).gmt⟩
  rw [rz_00, rz_00]
  have J0 : rz_J t N n k (ra_ui τ 1 7 1) ψ := rz_J_c h (fun c hc => ra_ui_1 c (by omega))
  obtain ⟨n1, k1, τ1, ψ1, e1, e2, J1, aft1, f1, f2⟩ := rz_stepJ J0
  have gc1 : rz_gct τ τ1 := (rz_gct_ui τ (by omega)).tr f1.fn.gct
  rw [e1, ra_kV, e2, ra_kV]
  rcases rz_num J1 (lo := 0) (hi := 99) (by omega) (by omega) with ⟨τ2, ψ2, n2, k2, v, a1, a2, J2, aft2, f3, f4, l1, l2, w1, w2, -⟩ | ⟨υ, φ, b1, b2, b3, b4, b5⟩
  case inr =>
    have b1' : ra_C 37 [.ref 1, .int 0, .int 99] τ1 = ra_I 0 υ := b1
    have b2' : ra_C 153 [.ref 86, .int 0, .int 99] ψ1 = ra_I 0 φ := b2
    rw [b1', ra_kI, rz_00, b2', ra_kI, rz_00]
    exact Or.inr ⟨υ, φ, rfl, rfl, b5, gc1.tr b3.gct, f2.fp.gmt.tr b4.gmt⟩
  have a1' : ra_C 37 [.ref 1, .int 0, .int 99] τ1 = ra_I 1 τ2 := a1
  have a2' : ra_C 153 [.ref 86, .int 0, .int 99] ψ1 = ra_I 1 ψ2 := a2
  have u35 : τ2.1 35 0 = nI (np + 1) := by rw [f3.1 35 (by decide) (by decide), f1.1 35 (by decide), ra_ui_1 35 (by decide)]; exact d1
  rw [a1', ra_kI, rz_10, a2', ra_kI, rz_10, e_55, u35, if_neg (nI_pos (by omega)), rz_il (by omega) (by omega), rz_ig (by omega) (by omega), nI_clamp (by omega), ra_kV, w1]
  have nn : n ≤ n2 := Nat.le_trans aft1.1 aft2.1
  refine Or.inl ⟨_, ψ2, n2, k2, rfl, rfl, rfl, ?_, aft1.tr aft2, ?_, (gc1.tr f3.gct).tr (rz_gct_ui _ (by omega)), (f2.fp.gmt.tr f4.gmt).tr (rz_gmt_ui _ (by omega)), ?_⟩
  · exact rz_J_m (rz_J_c J2 (fun c hc => ra_ui_1 c (by omega))) (fun j hj => by rw [ra_ui_1 86 (by decide)]) ⟨ra_ui_1 87 (by decide), ra_ui_1 88 (by decide)⟩
  · rw [w2]
    have C : ∀ c, c ≠ 1 ∧ c ≠ 2 ∧ c ≠ 41 → (ra_ui τ2 41 np (nI v)).1 c = τ.1 c := fun c hc => by rw [ra_ui_1 c hc.2.2, f3.1 c hc.1 hc.2.1, f1.1 c hc.2.1, ra_ui_1 c hc.1]
    have M : ∀ c, c ≠ 86 ∧ c ≠ 93 → (ra_ui ψ2 93 (40 + 5 * np + 4) (nI v)).1 c = ψ.1 c := fun c hc => by rw [ra_ui_1 c hc.2, f4.1 c hc.1, f2.1 c hc.1]
    have M86 : ∀ j, 12 ≤ j → (ra_ui ψ2 93 (40 + 5 * np + 4) (nI v)).1 86 j = ψ.1 86 j := fun j hj => by rw [ra_ui_1 86 (by decide), f4.2.1 j (by omega), f2.2.1 j (by omega)]
    have x41 : ∀ p, (ra_ui τ2 41 np (nI v)).1 41 p = if p = np then nI v else τ.1 41 p := fun p => by
      rw [ra_ui_get]
      by_cases y : p = np
      · rw [if_pos ⟨rfl, y⟩, if_pos y]
      · rw [if_neg (fun q => y q.2), if_neg y, f3.1 41 (by decide) (by decide), f1.1 41 (by decide), ra_ui_1 41 (by decide)]
    have y93 : ∀ j, j ≠ 40 + 5 * np + 4 → (ra_ui ψ2 93 (40 + 5 * np + 4) (nI v)).1 93 j = ψ.1 93 j := fun j hj => by
      rw [ra_ui_get, if_neg (fun q => hj q.2), f4.1 93 (by decide), f2.1 93 (by decide)]
    have y934 : (ra_ui ψ2 93 (40 + 5 * np + 4) (nI v)).1 93 (40 + 5 * np + 4) = nI v := by rw [ra_ui_get, if_pos ⟨rfl, rfl⟩]
    refine ⟨nb, nl, nw, ?_⟩
    simp only [C 29 (by decide), C 30 (by decide), C 31 (by decide), C 32 (by decide), C 33 (by decide), C 34 (by decide), C 35 (by decide), C 36 (by decide), C 37 (by decide), C 38 (by decide), C 39 (by decide), C 40 (by decide), C 42 (by decide), C 43 (by decide), C 44 (by decide), C 45 (by decide), C 46 (by decide), C 47 (by decide), C 5 (by decide), C 6 (by decide), C 7 (by decide), C 8 (by decide), C 9 (by decide), M 89 (by decide), M 90 (by decide), M 91 (by decide), M 92 (by decide), M 96 (by decide), M 97 (by decide), M 98 (by decide), M 99 (by decide), M 100 (by decide), M86 18 (by decide), M86 19 (by decide), M86 20 (by decide), M86 21 (by decide), M86 22 (by decide), M86 23 (by decide), M86 24 (by decide)]
    refine ⟨q1, rz_Qb_mono q2 nn, q3, ⟨d1, d2, rfl, rfl, hnp, fun p hp => ?_⟩, q5, ?_⟩
    · obtain ⟨u1, u2, u3, u4, u5, u6, u7⟩ := d3.2.2.2 p hp
      rw [x41, y93 (40 + 5 * p) (by omega), y93 (40 + 5 * p + 1) (by omega), y93 (40 + 5 * p + 2) (by omega), y93 (40 + 5 * p + 3) (by omega)]
      refine ⟨u1, u2, u3, u4, u5, ?_, u7⟩
      by_cases y : p = np
      · subst y
        rw [if_pos rfl, y934]
        exact ⟨rfl, by unfold rz_in; rw [nI_toInt (by omega)]; omega⟩
      · rw [if_neg y, y93 _ (by omega)]; exact u6
    · obtain ⟨Lk, g1, g2, g3, g4, g5⟩ := q6
      refine ⟨Lk, g1, g2, fun i x hx => ?_, g4, g5⟩
      obtain ⟨c1, c2, c3, c4, c5, c6, c7, c8⟩ := g3 i x hx
      exact ⟨c1, c2, c3, c4, c5, c6, c7, by omega⟩
  · rw [ra_ui_1 1 (by decide), f3.2.1 7 (by omega), f1.1 1 (by decide), ra_ui_get, if_pos ⟨rfl, rfl⟩]
end RZD
