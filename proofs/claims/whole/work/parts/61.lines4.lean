-- ===== text: the line of a wrong =====
section RZL3
variable {t : Nat → Nat} {N n : Nat} {k : Nat × Nat} {τ ψ : ra_S}
theorem rz_wrongL (h : rz_J t N n k τ ψ) (hQ : rz_Q n τ ψ) : rz_Ln t N n (ra_C 34 [.ref 1, .ref 29] τ) (ra_C 167 [.ref 86] ψ) τ ψ := by
  obtain ⟨nb, nl, np, nw, q1, q2, q3, q4, q5, q6⟩ := id hQ
  obtain ⟨d1, d2, d3, d4⟩ := q5
  obtain ⟨p1, p2, p3, p4⟩ := id q4
  rw [e_34, e_167, d1, d2]
  by_cases z : nw = 6
  · subst z
    rw [if_neg (show ¬ nI 6 < (6 : Int32) by decide), if_pos (show nI 6 = (6 : Int32) from rfl), rz_c_fail, ra_kI, rz_b01, e_145, ra_kI, rz_b01]
    exact rz_Ln_fail h _
  · rw [if_pos (show nI nw < (6 : Int32) from nI_lt (b := 6) (by omega) (by omega)), if_neg (show ¬ nI nw = (6 : Int32) from fun q => z (rz_nI_inj (b := 6) (by omega) (by omega) q))]
    obtain ⟨n1, k1, τ1, ψ1, e1, e2, J1, aft1, f1, f2⟩ := rz_stepJ h
    rw [e1, ra_kV, e2, ra_kV, f1.1 35 (by decide), p1, f2.2.1 20 (by omega), p2]
    rcases rz_oldP J1 p3 (fun l hl => by rw [f1.1 36 (by decide), f2.1 92 (by decide)]; exact (p4 l hl).1) with ⟨τ2, ψ2, n2, k2, l, a1, a2, J2, aft2, f3, f4, l1, w1, w2⟩ | no
    · have F2 : rz_fn τ τ2 := f1.fn.tr f3
      have G2 : rz_fp ψ ψ2 := f2.fp.tr f4
      have i0 : (21 : Int32) + (3 : Int32) * nI nw = nI (21 + 3 * nw) := by rw [show (3 : Int32) * nI nw = nI (3 * nw) from pk_mul 3 nw]; exact nI_add 21 (3 * nw)
      have i1 : nI (21 + 3 * nw) + (1 : Int32) = nI (21 + 3 * nw + 1) := nI_1 _
      have i2 : nI (21 + 3 * nw) + (2 : Int32) = nI (21 + 3 * nw + 2) := nI_add _ 2
      rw [a1, ra_kI, rz_10, a2, ra_kI, rz_10, G2.2.1 21 (by omega), d2, i0, i1, i2, rz_ig (by omega) (by omega), nI_clamp (by omega), w1, w2]
      have J3 : rz_J t N n2 k2 τ2 (ra_ui ψ2 96 (21 + 3 * nw) (nI l)) := rz_J_m J2 (fun j hj => by rw [ra_ui_1 86 (by decide)]) ⟨ra_ui_1 87 (by decide), ra_ui_1 88 (by decide)⟩
      have g3 : rz_gmt ψ (ra_ui ψ2 96 (21 + 3 * nw) (nI l)) := G2.gmt.tr (rz_gmt_ui _ (by omega))
      rcases rz_num J3 (lo := 0) (hi := 39) (by omega) (by omega) with ⟨τ4, ψ4, n4, k4, v, b1, b2, J4, aft4, f5, f6, l3, l4, w3, w4, -⟩ | no
      · have b1' : ra_C 37 [.ref 1, .int 0, .int 39] τ2 = ra_I 1 τ4 := b1
        have b2' : ra_C 153 [.ref 86, .int 0, .int 39] (ra_ui ψ2 96 (21 + 3 * nw) (nI l)) = ra_I 1 ψ4 := b2
        rw [b1', ra_kI, rz_10, b2', ra_kI, rz_10, w3, w4, rz_ig (by omega) (by omega), nI_clamp (by omega)]
        have J5 : rz_J t N n4 k4 τ4 (ra_ui ψ4 96 (21 + 3 * nw + 1) (nI v)) := rz_J_m J4 (fun j hj => by rw [ra_ui_1 86 (by decide)]) ⟨ra_ui_1 87 (by decide), ra_ui_1 88 (by decide)⟩
        have g5 : rz_gmt ψ (ra_ui ψ4 96 (21 + 3 * nw + 1) (nI v)) := (g3.tr f6.gmt).tr (rz_gmt_ui _ (by omega))
        rcases rz_sgn J5 (lo := (-2000 : Int32)) (hi := 2000) (by omega) (by omega) (by decide) with ⟨τ6, ψ6, n6, k6, r1, r2, J6, aft6, f7, f8, w5, w6⟩ | no
        · have r1' : ra_C 37 [.ref 1, .int (-2000), .int 2000] τ4 = ra_I 1 τ6 := r1
          have r2' : ra_C 154 [.ref 86, .int 2000] (ra_ui ψ4 96 (21 + 3 * nw + 1) (nI v)) = ra_I 1 ψ6 := r2
          have F6 : rz_fn τ τ6 := (F2.tr f5).tr f7
          have u7 : τ6.1 29 7 = nI nw := by rw [F6.1 29 (by decide) (by decide)]; exact d1
          have v21 : ψ6.1 86 21 = nI nw := by rw [f8.2.1 21 (by omega), ra_ui_1 86 (by decide), f6.2.1 21 (by omega), ra_ui_1 86 (by decide), G2.2.1 21 (by omega)]; exact d2
          rw [r1', ra_kI, rz_10, r2', ra_kI, rz_10, e_60, u7, if_neg (nI_pos (by omega)), if_pos (show nI nw < (6 : Int32) from nI_lt (b := 6) (by omega) (by omega)), rz_ig (by omega) (by omega), rz_ig (by omega) (by omega), rz_ig (by omega) (by omega), nI_clamp (by omega), ra_kV, rz_ig (by omega) (by omega), nI_clamp (by omega), v21, nI_1, w5]
          have nn : n ≤ n6 := Nat.le_trans aft1.1 (Nat.le_trans aft2.1 (Nat.le_trans aft4.1 aft6.1))
          have v96 : ∀ j, j ≠ 21 + 3 * nw → j ≠ 21 + 3 * nw + 1 → ψ6.1 96 j = ψ.1 96 j := fun j h1 h2 => by
            rw [f8.1 96 (by decide), ra_ui_get, if_neg (fun q => h2 q.2), f6.1 96 (by decide), ra_ui_get, if_neg (fun q => h1 q.2), G2.1 96 (by decide)]
          have v960 : ψ6.1 96 (21 + 3 * nw) = nI l := by rw [f8.1 96 (by decide), ra_ui_get, if_neg (fun q => by omega), f6.1 96 (by decide), ra_ui_get, if_pos ⟨rfl, rfl⟩]
          have v961 : ψ6.1 96 (21 + 3 * nw + 1) = nI v := by rw [f8.1 96 (by decide), ra_ui_get, if_pos ⟨rfl, rfl⟩]
          generalize hx : ψ6.1 86 11 = x at *
          obtain ⟨υ, hυ⟩ : ∃ υ : ra_S, υ = ra_ui (ra_ui (ra_ui (ra_ui τ6 45 nw (nI l)) 46 nw (nI v)) 47 nw x) 29 7 (nI (nw + 1)) := ⟨_, rfl⟩
          obtain ⟨φ, hφ⟩ : ∃ φ : ra_S, φ = ra_ui (ra_ui ψ6 96 (21 + 3 * nw + 2) x) 86 21 (nI (nw + 1)) := ⟨_, rfl⟩
          rw [← hυ, ← hφ]
          have C29 : ∀ j, j ≠ 7 → υ.1 29 j = τ.1 29 j := fun j hj => by
            rw [hυ, ra_ui_get, if_neg (fun q => hj q.2), ra_ui_1 29 (by decide), ra_ui_1 29 (by decide), ra_ui_1 29 (by decide), F6.1 29 (by decide) (by decide)]
          have C : ∀ c, c ≠ 1 ∧ c ≠ 2 ∧ c ≠ 29 ∧ c ≠ 45 ∧ c ≠ 46 ∧ c ≠ 47 → υ.1 c = τ.1 c := fun c hc => by
            rw [hυ, ra_ui_1 c hc.2.2.1, ra_ui_1 c hc.2.2.2.2.2, ra_ui_1 c hc.2.2.2.2.1, ra_ui_1 c hc.2.2.2.1, F6.1 c hc.1 hc.2.1]
          have M : ∀ c, c ≠ 86 ∧ c ≠ 96 → φ.1 c = ψ.1 c := fun c hc => by
            rw [hφ, ra_ui_1 c hc.1, ra_ui_1 c hc.2, f8.1 c hc.1, ra_ui_1 c hc.2, f6.1 c hc.1, ra_ui_1 c hc.2, G2.1 c hc.1]
          have M86 : ∀ j, (18 ≤ j ∧ j ≤ 24) ∧ j ≠ 21 → φ.1 86 j = ψ.1 86 j := fun j hj => by
            rw [hφ, ra_ui_get, if_neg (fun q => hj.2 q.2), ra_ui_1 86 (by decide), f8.2.1 j (by omega), ra_ui_1 86 (by decide), f6.2.1 j (by omega), ra_ui_1 86 (by decide), G2.2.1 j (by omega)]
          have gc : rz_gct τ υ := by
            rw [hυ]
            exact (((F6.gct.tr (rz_gct_ui _ (by omega))).tr (rz_gct_ui _ (by omega))).tr (rz_gct_ui _ (by omega))).tr (rz_gct_ui _ (by omega))
          have gm : rz_gmt ψ φ := by
            rw [hφ]
            exact ((g5.tr f8.gmt).tr (rz_gmt_ui _ (by omega))).tr (rz_gmt_ui _ (by omega))
          have J7 : rz_J t N n6 k6 υ φ := by
            refine rz_J_m (rz_J_c J6 (fun c hc => ?_) (by rw [hυ]; exact ⟨rfl, rfl⟩)) (fun j hj => ?_) ⟨?_, ?_⟩ (by rw [hφ]; exact ⟨rfl, rfl⟩)
            · rw [hυ, ra_ui_1 c (by omega), ra_ui_1 c (by omega), ra_ui_1 c (by omega), ra_ui_1 c (by omega)]
            · rw [hφ, ra_ui_get, if_neg (fun q => by omega), ra_ui_1 86 (by decide)]
            · rw [hφ, ra_ui_1 87 (by decide), ra_ui_1 87 (by decide)]
            · rw [hφ, ra_ui_1 88 (by decide), ra_ui_1 88 (by decide)]
          have x45 : ∀ w, υ.1 45 w = if w = nw then nI l else τ.1 45 w := fun w => by
            rw [hυ, ra_ui_1 45 (by decide), ra_ui_1 45 (by decide), ra_ui_1 45 (by decide), ra_ui_get, F6.1 45 (by decide) (by decide)]
            by_cases y : w = nw
            · rw [if_pos ⟨rfl, y⟩, if_pos y]
            · rw [if_neg (fun q => y q.2), if_neg y]
          have x46 : ∀ w, υ.1 46 w = if w = nw then nI v else τ.1 46 w := fun w => by
            rw [hυ, ra_ui_1 46 (by decide), ra_ui_1 46 (by decide), ra_ui_get, ra_ui_1 46 (by decide), F6.1 46 (by decide) (by decide)]
            by_cases y : w = nw
            · rw [if_pos ⟨rfl, y⟩, if_pos y]
            · rw [if_neg (fun q => y q.2), if_neg y]
          have x47 : ∀ w, υ.1 47 w = if w = nw then x else τ.1 47 w := fun w => by
            rw [hυ, ra_ui_1 47 (by decide), ra_ui_get, ra_ui_1 47 (by decide), ra_ui_1 47 (by decide), F6.1 47 (by decide) (by decide)]
            by_cases y : w = nw
            · rw [if_pos ⟨rfl, y⟩, if_pos y]
            · rw [if_neg (fun q => y q.2), if_neg y]
          have y96 : ∀ j, j ≠ 21 + 3 * nw + 2 → φ.1 96 j = ψ6.1 96 j := fun j hj => by rw [hφ, ra_ui_1 96 (by decide), ra_ui_get, if_neg (fun q => hj q.2)]
          have y962 : φ.1 96 (21 + 3 * nw + 2) = x := by rw [hφ, ra_ui_1 96 (by decide), ra_ui_get, if_pos ⟨rfl, rfl⟩]
          have c7 : υ.1 29 7 = nI (nw + 1) := by rw [hυ, ra_ui_get, if_pos ⟨rfl, rfl⟩]
          have m21 : φ.1 86 21 = nI (nw + 1) := by rw [hφ, ra_ui_get, if_pos ⟨rfl, rfl⟩]
          refine Or.inl ⟨υ, φ, n6, k6, rfl, rfl, J7, nn, ⟨nb, nl, np, nw + 1, ?_⟩, gc, gm⟩
          rw [C29 2 (by decide), C29 3 (by decide), C29 4 (by decide), C29 5 (by decide)]
          simp only [C 30 (by decide), C 31 (by decide), C 32 (by decide), C 33 (by decide), C 34 (by decide), C 35 (by decide), C 36 (by decide), C 37 (by decide), C 38 (by decide), C 39 (by decide), C 40 (by decide), C 41 (by decide), C 42 (by decide), C 43 (by decide), C 44 (by decide), C 5 (by decide), C 6 (by decide), C 7 (by decide), C 8 (by decide), C 9 (by decide), M 89 (by decide), M 90 (by decide), M 91 (by decide), M 92 (by decide), M 93 (by decide), M 97 (by decide), M 98 (by decide), M 99 (by decide), M 100 (by decide), M86 18 (by decide), M86 19 (by decide), M86 20 (by decide), M86 22 (by decide), M86 23 (by decide), M86 24 (by decide)]
          refine ⟨q1, rz_Qb_mono q2 nn, q3, q4, ⟨c7, m21, by omega, fun w hw => ?_⟩, rz_Qk_mono q6 nn⟩
          by_cases y : w = nw
          · subst y
            rw [x45, x46, x47, if_pos rfl, if_pos rfl, if_pos rfl, y96 _ (by omega), y96 _ (by omega), y962, v960, v961]
            exact ⟨⟨l, l1, rfl, rfl⟩, ⟨v, by omega, rfl, rfl⟩, rfl, w6⟩
          · rw [x45, x46, x47, if_neg y, if_neg y, if_neg y, y96 _ (by omega), y96 _ (by omega), y96 _ (by omega), v96 _ (by omega) (by omega), v96 _ (by omega) (by omega), v96 _ (by omega) (by omega)]
            exact d4 w (by omega)
        · obtain ⟨υ, φ, b1, b2, b3, b4, b5⟩ := no
          have b1' : ra_C 37 [.ref 1, .int (-2000), .int 2000] τ4 = ra_I 0 υ := b1
          have b2' : ra_C 154 [.ref 86, .int 2000] (ra_ui ψ4 96 (21 + 3 * nw + 1) (nI v)) = ra_I 0 φ := b2
          rw [b1', ra_kI, rz_00, b2', ra_kI, rz_00]
          exact Or.inr ⟨υ, φ, rfl, rfl, b5, (F2.tr f5).gct.tr b3.gct, g5.tr b4.gmt⟩
      · obtain ⟨υ, φ, b1, b2, b3, b4, b5⟩ := no
        have b1' : ra_C 37 [.ref 1, .int 0, .int 39] τ2 = ra_I 0 υ := b1
        have b2' : ra_C 153 [.ref 86, .int 0, .int 39] (ra_ui ψ2 96 (21 + 3 * nw) (nI l)) = ra_I 0 φ := b2
        rw [b1', ra_kI, rz_00, b2', ra_kI, rz_00]
        exact Or.inr ⟨υ, φ, rfl, rfl, b5, F2.gct.tr b3.gct, g3.tr b4.gmt⟩
    · obtain ⟨υ, φ, b1, b2, b3, b4, b5⟩ := no
      rw [b1, ra_kI, rz_00, b2, ra_kI, rz_00]
      exact Or.inr ⟨υ, φ, rfl, rfl, b5, f1.fn.gct.tr b3.gct, f2.fp.gmt.tr b4.gmt⟩
end RZL3
