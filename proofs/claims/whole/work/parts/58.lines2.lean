-- ===== text: the lines of stick, pause and beat; written in part by a program =====
section RZL1
variable {t : Nat → Nat} {N n : Nat} {k : Nat × Nat} {τ ψ : ra_S}
theorem rz_kc_lt (h : rz_Kc k τ) : rz_kc k < 100 := by
  obtain ⟨c1, c2, c3, c4, c5⟩ := rz_Kc_kd h
  unfold rz_kc
  split
  · have := rz_wc_lt ⟨k.2, c3 (by assumption)⟩
    dsimp only at this
    omega
  · omega
theorem rz_wc_inj : ∀ x y : Fin 11, rz_wc x.val = rz_wc y.val → x = y := by decide +kernel
/-- the class asks for a word -/
theorem rz_c_key (h : rz_J t N n k τ ψ) {w : Nat} (hw : w < 11) : τ.1 2 5 = nI (6 + rz_wc w) ↔ k = (6, w) := by
  obtain ⟨c1, c2, c3, c4, c5⟩ := rz_Kc_kd h.2.2.1
  have l1 := rz_kc_lt h.2.2.1
  have l2 := rz_wc_lt ⟨w, hw⟩
  dsimp only at l2
  rw [c2]
  constructor
  · intro q
    have := rz_nI_inj (by omega) (by omega) q
    unfold rz_kc at this
    by_cases z : k.1 = 6
    · rw [if_pos z] at this
      have e := congrArg Fin.val (rz_wc_inj ⟨k.2, c3 z⟩ ⟨w, hw⟩ (by show rz_wc k.2 = rz_wc w; omega))
      dsimp only at e
      rw [← z, ← e]
    · rw [if_neg z] at this; omega
  · rintro rfl
    rfl
theorem rz_m_key (h : rz_J t N n k τ ψ) {w : Nat} (hw : w < 11) : ra_C 151 [.ref 86, .int (nI w)] ψ = ra_I (if k = (6, w) then 1 else 0) ψ := by
  obtain ⟨c1, c2, c3, c4, c5⟩ := rz_Kc_kd h.2.2.1
  obtain ⟨m1, m2, m3, m4, m5, m6⟩ := rz_Km_kd h.2.2.2.1
  have kml : rz_km k < 100 := by rcases rz_km_cases c1 with q | q | q | q | q | q | q <;> omega
  rw [e_151, m1, show (1 : Int32) = nI 1 from rfl, rz_lit (by omega) (by omega)]
  by_cases z : k.1 = 6
  · have b : rz_km k = 1 := by rcases rz_km_cases c1 with q | q | q | q | q | q | q <;> omega
    have := c3 z
    rw [if_pos b, m6 z, rz_lit (by omega) (by omega)]
    by_cases y : k.2 = w
    · rw [if_pos y, if_pos (by rw [← z, ← y])]
    · rw [if_neg y, if_neg (fun q => y (by rw [q]))]
  · have b : ¬ rz_km k = 1 := by rcases rz_km_cases c1 with q | q | q | q | q | q | q <;> omega
    rw [if_neg b, if_neg (fun q => z (by rw [q]))]
theorem rz_Ln_no {e f : Option ((Option Value ⊕ (ra_L × List Value)) × ra_S)} {τ1 ψ1 : ra_S} (h : rz_No e f τ1 ψ1) (g1 : rz_gct τ τ1) (g2 : rz_gmt ψ ψ1) : rz_Ln t N n e f τ ψ := by
  obtain ⟨υ, φ, e1, e2, f1, f2, fl⟩ := h
  exact Or.inr ⟨υ, φ, e1, e2, fl, g1.tr f1.gct, g2.tr f2.gmt⟩
theorem rz_Ln_fail (h : rz_J t N n k τ ψ) (w : Int32) : rz_Ln t N n (ra_I 0 (ra_ui (ra_ui τ 1 2 w) 1 3 (τ.1 2 6))) (ra_I 0 (ra_ui (ra_ui ψ 86 4 w) 86 5 (ψ.1 86 10))) τ ψ := Or.inr ⟨_, _, rfl, rfl, rz_Fl_of h w, (rz_fn_fail _ _ _).gct, (rz_fp_fail _ _ _).gmt⟩
theorem rz_gmt_ui (τ : ra_S) {c k : Nat} {x : Int32} (hc : (c = 86 ∧ 18 ≤ k ∧ k ≤ 24) ∨ (c = 89 ∧ 40 ≤ k) ∨ (c = 90 ∧ 6 ≤ k) ∨ (c = 91 ∧ 36 ≤ k) ∨ (c = 92 ∧ 8 ≤ k) ∨ (c = 93 ∧ 40 ≤ k) ∨ (c = 94 ∧ 8 ≤ k) ∨ (c = 95 ∧ 8 ≤ k) ∨ (c = 96 ∧ 21 ≤ k) ∨ (97 ≤ c ∧ c ≤ 100)) : rz_gmt τ (ra_ui τ c k x) := by
  refine ⟨fun d hd => ra_ui_1 d (by omega), fun j hj => by rw [ra_ui_get, if_neg (fun q => by omega)], ⟨?_, ?_, ?_, ?_, ?_, ?_, ?_, ?_⟩, rfl⟩
  all_goals exact fun j hj => by rw [ra_ui_get, if_neg (fun q => by omega)]
theorem rz_stick (h : rz_J t N n k τ ψ) (hQ : rz_Q n τ ψ) : rz_Ln t N n (ra_C 26 [.ref 1, .ref 29] τ) (ra_C 161 [.ref 86] ψ) τ ψ := by
  obtain ⟨nb, nl, np, nw, q1, q2, q3, q4, q5, q6⟩ := hQ
  rw [e_26, e_161, q1.2.2.1]
  rcases q1.2.2.2 with z | z
  · rw [z, if_pos rfl, if_pos rfl]
    have J0 : rz_J t N n k τ (ra_ui ψ 86 24 1) := rz_J_m h (fun j hj => by rw [ra_ui_get, if_neg (fun q => by omega)]) ⟨ra_ui_1 87 (by decide), ra_ui_1 88 (by decide)⟩
    obtain ⟨n1, k1, τ1, ψ1, e1, e2, J1, aft1, f1, f2⟩ := rz_stepJ J0
    rw [e1, ra_kV, e2, ra_kV]
    have g0 : rz_gmt ψ (ra_ui ψ 86 24 1) := rz_gmt_ui ψ (by omega)
    rcases rz_num J1 (lo := 0) (hi := 30) (by omega) (by omega) with ⟨τ2, ψ2, n2, k2, v, a1, a2, J2, aft2, f3, f4, l1, l2, w1, w2, -⟩ | no
    · have a1' : ra_C 37 [.ref 1, .int 0, .int 30] τ1 = ra_I 1 τ2 := a1
      have a2' : ra_C 153 [.ref 86, .int 0, .int 30] ψ1 = ra_I 1 ψ2 := a2
      rw [a1', ra_kI, if_neg (by decide), a2', ra_kI, if_neg (by decide), w1, w2]
      have J3 : rz_J t N n2 k2 (ra_ui τ2 29 3 (nI v)) (ra_ui ψ2 86 22 (nI v)) := rz_J_m (rz_J_c J2 (fun c hc => ra_ui_1 c (by omega))) (fun j hj => by rw [ra_ui_get, if_neg (fun q => by omega)]) ⟨ra_ui_1 87 (by decide), ra_ui_1 88 (by decide)⟩
      have g1 : rz_gct τ (ra_ui τ2 29 3 (nI v)) := (f1.fn.gct.tr f3.gct).tr (rz_gct_ui _ (by omega))
      have g2 : rz_gmt ψ (ra_ui ψ2 86 22 (nI v)) := ((g0.tr f2.fp.gmt).tr f4.gmt).tr (rz_gmt_ui _ (by omega))
      rcases rz_num J3 (lo := 0) (hi := 30) (by omega) (by omega) with ⟨τ4, ψ4, n4, k4, v2, b1, b2, J4, aft4, f5, f6, l3, l4, w3, w4, -⟩ | no
      · have b1' : ra_C 37 [.ref 1, .int 0, .int 30] (ra_ui τ2 29 3 (nI v)) = ra_I 1 τ4 := b1
        have b2' : ra_C 153 [.ref 86, .int 0, .int 30] (ra_ui ψ2 86 22 (nI v)) = ra_I 1 ψ4 := b2
        rw [b1', ra_kI, if_neg (by decide), b2', ra_kI, if_neg (by decide), w3, w4]
        have nn : n ≤ n4 := Nat.le_trans aft1.1 (Nat.le_trans aft2.1 aft4.1)
        have C29 : ∀ j, j ≠ 2 → j ≠ 3 → j ≠ 4 → (ra_ui (ra_ui τ4 29 4 (nI v2)) 29 2 1).1 29 j = τ.1 29 j := fun j h2 h3 h4 => by
          rw [ra_ui_get, if_neg (fun q => h2 q.2), ra_ui_get, if_neg (fun q => h4 q.2), f5.1 29 (by decide) (by decide), ra_ui_get, if_neg (fun q => h3 q.2), f3.1 29 (by decide) (by decide), f1.1 29 (by decide)]
        have C : ∀ c, c ≠ 1 ∧ c ≠ 2 ∧ c ≠ 29 → (ra_ui (ra_ui τ4 29 4 (nI v2)) 29 2 1).1 c = τ.1 c := fun c hc => by
          rw [ra_ui_1 c hc.2.2, ra_ui_1 c hc.2.2, f5.1 c hc.1 hc.2.1, ra_ui_1 c hc.2.2, f3.1 c hc.1 hc.2.1, f1.1 c hc.2.1]
        have M : ∀ c, c ≠ 86 → (ra_ui ψ4 86 23 (nI v2)).1 c = ψ.1 c := fun c hc => by
          rw [ra_ui_1 c hc, f6.1 c hc, ra_ui_1 c hc, f4.1 c hc, f2.1 c hc, ra_ui_1 c hc]
        have M86 : ∀ j, 18 ≤ j ∧ j ≤ 21 → (ra_ui ψ4 86 23 (nI v2)).1 86 j = ψ.1 86 j := fun j hj => by
          rw [ra_ui_get, if_neg (fun q => by omega), f6.2.1 j (by omega), ra_ui_get, if_neg (fun q => by omega), f4.2.1 j (by omega), f2.2.1 j (by omega), ra_ui_get, if_neg (fun q => by omega)]
        refine Or.inl ⟨_, _, n4, k4, rfl, rfl, rz_J_m (rz_J_c (rz_J_c J4 (υ := ra_ui τ4 29 4 (nI v2)) (fun c hc => ra_ui_1 c (by omega))) (fun c hc => ra_ui_1 c (by omega))) (fun j hj => by rw [ra_ui_get, if_neg (fun q => by omega)]) ⟨ra_ui_1 87 (by decide), ra_ui_1 88 (by decide)⟩, nn, ⟨nb, nl, np, nw, ?_⟩, ((g1.tr f5.gct).tr (rz_gct_ui _ (by omega))).tr (rz_gct_ui _ (by omega)), (g2.tr f6.gmt).tr (rz_gmt_ui _ (by omega))⟩
        rw [C29 5 (by decide) (by decide) (by decide), C29 7 (by decide) (by decide) (by decide)]
        simp only [C 30 (by decide), C 31 (by decide), C 32 (by decide), C 33 (by decide), C 34 (by decide), C 35 (by decide), C 36 (by decide), C 37 (by decide), C 38 (by decide), C 39 (by decide), C 40 (by decide), C 41 (by decide), C 42 (by decide), C 43 (by decide), C 44 (by decide), C 45 (by decide), C 46 (by decide), C 47 (by decide), C 5 (by decide), C 6 (by decide), C 7 (by decide), C 8 (by decide), C 9 (by decide), M 89 (by decide), M 90 (by decide), M 91 (by decide), M 92 (by decide), M 93 (by decide), M 96 (by decide), M 97 (by decide), M 98 (by decide), M 99 (by decide), M 100 (by decide), M86 18 (by decide), M86 19 (by decide), M86 20 (by decide), M86 21 (by decide)]
        refine ⟨⟨?_, ?_, ?_, Or.inr ?_⟩, rz_Qb_mono q2 nn, q3, q4, q5, rz_Qk_mono q6 nn⟩
        · rw [ra_ui_get, if_neg (by decide), ra_ui_get, if_neg (by decide), f5.1 29 (by decide) (by decide), ra_ui_get, if_pos ⟨rfl, rfl⟩, ra_ui_get, if_neg (by decide), f6.2.1 22 (by omega), ra_ui_get, if_pos ⟨rfl, rfl⟩]
        · rw [ra_ui_get, if_neg (by decide), ra_ui_get, if_pos ⟨rfl, rfl⟩, ra_ui_get, if_pos ⟨rfl, rfl⟩]
        · rw [ra_ui_get, if_pos ⟨rfl, rfl⟩, ra_ui_get, if_neg (by decide), f6.2.1 24 (by omega), ra_ui_get, if_neg (by decide), f4.2.1 24 (by omega), f2.2.1 24 (by omega), ra_ui_get, if_pos ⟨rfl, rfl⟩]
        · rw [ra_ui_get, if_neg (by decide), f6.2.1 24 (by omega), ra_ui_get, if_neg (by decide), f4.2.1 24 (by omega), f2.2.1 24 (by omega), ra_ui_get, if_pos ⟨rfl, rfl⟩]
      · obtain ⟨υ, φ, b1, b2, b3, b4, b5⟩ := no
        have b1' : ra_C 37 [.ref 1, .int 0, .int 30] (ra_ui τ2 29 3 (nI v)) = ra_I 0 υ := b1
        have b2' : ra_C 153 [.ref 86, .int 0, .int 30] (ra_ui ψ2 86 22 (nI v)) = ra_I 0 φ := b2
        rw [b1', ra_kI, if_pos rfl, b2', ra_kI, if_pos rfl]
        exact Or.inr ⟨υ, φ, rfl, rfl, b5, g1.tr b3.gct, g2.tr b4.gmt⟩
    · obtain ⟨υ, φ, b1, b2, b3, b4, b5⟩ := no
      have b1' : ra_C 37 [.ref 1, .int 0, .int 30] τ1 = ra_I 0 υ := b1
      have b2' : ra_C 153 [.ref 86, .int 0, .int 30] ψ1 = ra_I 0 φ := b2
      rw [b1', ra_kI, if_pos rfl, b2', ra_kI, if_pos rfl]
      exact Or.inr ⟨υ, φ, rfl, rfl, b5, f1.fn.gct.tr b3.gct, (g0.tr f2.fp.gmt).tr b4.gmt⟩
  · rw [z, if_neg (by decide), if_neg (by decide), rz_c_fail, ra_kI, rz_b01, e_145, ra_kI, rz_b01]
    exact rz_Ln_fail h _
theorem rz_pauseL (h : rz_J t N n k τ ψ) (hQ : rz_Q n τ ψ) : rz_Ln t N n (ra_C 28 [.ref 1, .ref 29] τ) (ra_C 163 [.ref 86] ψ) τ ψ := by
  obtain ⟨nb, nl, np, nw, q1, q2, q3, q4, q5, q6⟩ := hQ
  obtain ⟨d1, d2, d3, len, d4, d5, d6⟩ := q2
  rw [e_28, e_163, d1, d2]
  by_cases z : nb = 0
  · subst z
    rw [if_pos (show nI 0 = (0 : Int32) from rfl), if_pos (show nI 0 = (0 : Int32) from rfl), rz_c_fail, ra_kI, rz_b01, e_145, ra_kI, rz_b01]
    exact rz_Ln_fail h _
  · rw [if_neg (nI_ne0 (by omega) (by omega)), if_neg (nI_ne0 (by omega) (by omega))]
    obtain ⟨n1, k1, τ1, ψ1, e1, e2, J1, aft1, f1, f2⟩ := rz_stepJ h
    rw [e1, ra_kV, e2, ra_kV]
    rcases rz_num J1 (lo := 0) (hi := 9999) (by omega) (by omega) with ⟨τ2, ψ2, n2, k2, v, a1, a2, J2, aft2, f3, f4, l1, l2, w1, w2, z2⟩ | no
    · have a1' : ra_C 37 [.ref 1, .int 0, .int 9999] τ1 = ra_I 1 τ2 := a1
      have a2' : ra_C 153 [.ref 86, .int 0, .int 9999] ψ1 = ra_I 1 ψ2 := a2
      obtain ⟨m, rfl⟩ : ∃ m, nb = m + 1 := ⟨nb - 1, by omega⟩
      have u5 : τ2.1 29 5 = nI (m + 1) := by rw [f3.1 29 (by decide) (by decide), f1.1 29 (by decide)]; exact d1
      have u18 : ψ2.1 86 18 = nI (m + 1) := by rw [f4.2.1 18 (by omega), f2.2.1 18 (by omega)]; exact d2
      have u44 : τ2.1 44 = τ.1 44 := by rw [f3.1 44 (by decide) (by decide), f1.1 44 (by decide)]
      have u89 : ψ2.1 89 = ψ.1 89 := by rw [f4.1 89 (by decide), f2.1 89 (by decide)]
      have i39 : (39 : Int32) + nI (m + 1) = nI (39 + (m + 1)) := nI_add 39 (m + 1)
      rw [a1', ra_kI, if_neg (by decide), a2', ra_kI, if_neg (by decide), e_59, u5, if_pos (show (0 : Int32) < nI (m + 1) from nI_lt (a := 0) (by omega) (by omega)), if_neg (show ¬ (40 : Int32) < nI (m + 1) from nI_nlt (a := 40) (by omega) (by omega)), rz_ig (by omega) (by omega), rz_ig (by omega) (by omega), nI_clamp (by omega), ra_kV, u18, i39, rz_ig (by omega) (by omega), rz_ig (by omega) (by omega), nI_clamp (by omega), w1, w2, u44, u89, d5 (m + 1) (by omega), nI_add, show 39 + (m + 1) = 40 + m by omega, d4 m (by omega), nI_add]
      have nn : n ≤ n2 := Nat.le_trans aft1.1 aft2.1
      have ns : n < n2 := Nat.lt_of_lt_of_le (aft1.2 (by omega)) aft2.1
      have sm : ∀ j, j ≤ m → rz_sum (fun i => if i = m then len i + v else len i) j = rz_sum len j := fun j hj => by
        induction j with
        | zero => rfl
        | succ j ih => rw [rz_sum, rz_sum, ih (by omega), if_neg (by omega)]
      have sm1 : rz_sum (fun i => if i = m then len i + v else len i) (m + 1) = rz_sum len (m + 1) + v := by rw [rz_sum, rz_sum, sm m (Nat.le_refl _), if_pos rfl]; omega
      have C : ∀ c, c ≠ 1 ∧ c ≠ 2 ∧ c ≠ 44 → (ra_ui τ2 44 (m + 1) (nI (rz_sum len (m + 1) + v))).1 c = τ.1 c := fun c hc => by
        rw [ra_ui_1 c hc.2.2, f3.1 c hc.1 hc.2.1, f1.1 c hc.2.1]
      have M : ∀ c, c ≠ 86 ∧ c ≠ 89 → (ra_ui ψ2 89 (40 + m) (nI (len m + v))).1 c = ψ.1 c := fun c hc => by
        rw [ra_ui_1 c hc.2, f4.1 c hc.1, f2.1 c hc.1]
      have M86 : ∀ j, 18 ≤ j ∧ j ≤ 24 → (ra_ui ψ2 89 (40 + m) (nI (len m + v))).1 86 j = ψ.1 86 j := fun j hj => by
        rw [ra_ui_1 86 (by decide), f4.2.1 j (by omega), f2.2.1 j (by omega)]
      refine Or.inl ⟨_, _, n2, k2, rfl, rfl, rz_J_m (rz_J_c J2 (fun c hc => ra_ui_1 c (by omega))) (fun j hj => by rw [ra_ui_1 86 (by decide)]) ⟨ra_ui_1 87 (by decide), ra_ui_1 88 (by decide)⟩, nn, ⟨m + 1, nl, np, nw, ?_⟩, (f1.fn.gct.tr f3.gct).tr (rz_gct_ui _ (by omega)), (f2.fp.gmt.tr f4.gmt).tr (rz_gmt_ui _ (by omega))⟩
      simp only [C 29 (by decide), C 30 (by decide), C 31 (by decide), C 32 (by decide), C 33 (by decide), C 34 (by decide), C 35 (by decide), C 36 (by decide), C 37 (by decide), C 38 (by decide), C 39 (by decide), C 40 (by decide), C 41 (by decide), C 42 (by decide), C 43 (by decide), C 45 (by decide), C 46 (by decide), C 47 (by decide), C 5 (by decide), C 6 (by decide), C 7 (by decide), C 8 (by decide), C 9 (by decide), M 90 (by decide), M 91 (by decide), M 92 (by decide), M 93 (by decide), M 96 (by decide), M 97 (by decide), M 98 (by decide), M 99 (by decide), M 100 (by decide), M86 18 (by decide), M86 19 (by decide), M86 20 (by decide), M86 21 (by decide), M86 22 (by decide), M86 23 (by decide), M86 24 (by decide)]
      refine ⟨q1, ⟨d1, d2, d3, fun i => if i = m then len i + v else len i, fun j hj => ?_, fun j hj => ?_, by rw [sm1]; omega⟩, q3, q4, q5, rz_Qk_mono q6 nn⟩
      · show _ = nI (if j = m then len j + v else len j)
        rw [ra_ui_get]
        by_cases y : j = m
        · rw [if_pos ⟨rfl, by omega⟩, if_pos y, y]
        · rw [if_neg (fun q => by omega), if_neg y, u89]; exact d4 j hj
      · rw [ra_ui_get]
        by_cases y : j = m + 1
        · rw [if_pos ⟨rfl, y⟩, y, sm1]
        · rw [if_neg (fun q => y q.2), u44, sm j (by omega)]; exact d5 j hj
    · obtain ⟨υ, φ, b1, b2, b3, b4, b5⟩ := no
      have b1' : ra_C 37 [.ref 1, .int 0, .int 9999] τ1 = ra_I 0 υ := b1
      have b2' : ra_C 153 [.ref 86, .int 0, .int 9999] ψ1 = ra_I 0 φ := b2
      rw [b1', ra_kI, if_pos rfl, b2', ra_kI, if_pos rfl]
      exact Or.inr ⟨υ, φ, rfl, rfl, b5, f1.fn.gct.tr b3.gct, f2.fp.gmt.tr b4.gmt⟩
end RZL1
