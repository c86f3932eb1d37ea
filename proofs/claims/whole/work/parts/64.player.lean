-- ===== text: the line of a player, up to what he sees, hears and dares; written by wip/whole/gen64.py =====
/-- the rows of names, while the player np is read -/
def rz_Qk1 (n np : Nat) (c0 : Int32) (a6 a7 a8 a9 m97 m98 m99 m100 : Nat → Int32) : Prop := ∃ Lk : List (Nat × Nat × Nat × Nat), c0 = nI Lk.length ∧ Lk.length ≤ 8 * np + (rz_sub Lk np 0).length + (rz_sub Lk np 1).length ∧
  (∀ i x, Lk[i]? = some x → a6 i = nI x.1 ∧ a7 i = nI (13 + x.2.1) ∧ a8 i = nI x.2.2.1 ∧ a9 i = nI x.2.2.2 ∧ x.1 < np + 1 ∧ x.2.1 < 2 ∧ x.2.2.1 < 1073741824 ∧ x.2.2.2 < n) ∧
  Lk.Pairwise (fun x y => x.2.2.2 < y.2.2.2) ∧
  ∀ p, p < np + 1 → ((rz_sub Lk p 0).length ≤ 4 ∧ m99 p = nI (rz_sub Lk p 0).length) ∧ ((rz_sub Lk p 1).length ≤ 4 ∧ m100 p = nI (rz_sub Lk p 1).length) ∧
    ∀ kd, kd < 2 → ∀ i x, (rz_sub Lk p kd)[i]? = some x → m97 (8 * p + 4 * kd + i) = nI x.2.2.1 ∧ m98 (8 * p + 4 * kd + i) = nI x.2.2.2
def rz_Q1 (n np : Nat) (τ ψ : ra_S) : Prop := ∃ nb nl nw : Nat, rz_Qs (τ.1 29 2) (τ.1 29 3) (τ.1 29 4) (ψ.1 86 24) (ψ.1 86 22) (ψ.1 86 23) ∧ rz_Qb n nb (τ.1 29 5) (ψ.1 86 18) (τ.1 44) (ψ.1 89) ∧ rz_Ql nl (τ.1 30 0) (ψ.1 86 19) (τ.1 31) (τ.1 32) (τ.1 33) (τ.1 34) (ψ.1 90) (ψ.1 91) ∧ (τ.1 35 0 = nI (np + 1) ∧ ψ.1 86 20 = nI np ∧ rz_Qp (np + 1) nl (nI (np + 1)) (nI (np + 1)) (τ.1 36) (τ.1 37) (τ.1 38) (τ.1 39) (τ.1 40) (τ.1 41) (τ.1 42) (τ.1 43) (ψ.1 92) (ψ.1 93)) ∧ rz_Qw nw np (τ.1 29 7) (ψ.1 86 21) (τ.1 45) (τ.1 46) (τ.1 47) (ψ.1 96) ∧ rz_Qk1 n np (τ.1 5 0) (τ.1 6) (τ.1 7) (τ.1 8) (τ.1 9) (ψ.1 97) (ψ.1 98) (ψ.1 99) (ψ.1 100)
/-- a new player, who sees and hears nobody yet -/
theorem rz_Qk_new {n np : Nat} {c0 : Int32} {a6 a7 a8 a9 m97 m98 m99 m100 n99 n100 : Nat → Int32} (h : rz_Qk n np c0 a6 a7 a8 a9 m97 m98 m99 m100) (h1 : ∀ p, n99 p = if p = np then 0 else m99 p) (h2 : ∀ p, n100 p = if p = np then 0 else m100 p) : rz_Qk1 n np c0 a6 a7 a8 a9 m97 m98 n99 n100 := by
  obtain ⟨Lk, g1, g2, g3, g4, g5⟩ := h
  have em : ∀ kd, rz_sub Lk np kd = [] := fun kd => by
    unfold rz_sub
    rw [List.filter_eq_nil_iff]
    intro x hx
    obtain ⟨i, hi⟩ := List.mem_iff_getElem?.mp hx
    have := (g3 i x hi).2.2.2.2.1
    simp only [Bool.and_eq_true, beq_iff_eq]
    omega
  refine ⟨Lk, g1, by rw [em, em]; simp only [List.length_nil]; omega, fun i x hx => ?_, g4, fun p hp => ?_⟩
  · obtain ⟨b1, b2, b3, b4, b5, b6⟩ := g3 i x hx
    exact ⟨b1, b2, b3, b4, by omega, b6⟩
  · by_cases y : p = np
    · subst y
      rw [h1, h2, if_pos rfl, if_pos rfl, em, em]
      refine ⟨⟨by simp only [List.length_nil]; omega, rfl⟩, ⟨by simp only [List.length_nil]; omega, rfl⟩, fun kd _ i x hx => ?_⟩
      rw [em] at hx
      cases hx
    · rw [h1, h2, if_neg y, if_neg y]
      exact g5 p (by omega)
section RZL5
variable {t : Nat → Nat} {N n : Nat} {k : Nat × Nat} {τ ψ : ra_S}
/-- the first half of a player's line -/
theorem rz_playA (h : rz_J t N n k τ ψ) (hQ : rz_Q n τ ψ) :
    (∃ (υ φ : ra_S) (n' : Nat) (k' : Nat × Nat) (np : Nat), ra_C 30 [.ref 1, .ref 29] τ = ra_I 1 υ ∧ ra_C 166 [.ref 86] ψ = ra_D (ra_lay, none, 99999, ra_m166) 154 [some (.ref 86), some (.int (nI (40 + 5 * np))), some (.int 0)] [] φ ∧ rz_J t N n' k' υ φ ∧ n ≤ n' ∧ rz_Q1 n' np υ φ ∧ rz_gct τ υ ∧ rz_gmt ψ φ) ∨
    (∃ υ φ : ra_S, ra_C 30 [.ref 1, .ref 29] τ = ra_I 0 υ ∧ ra_C 166 [.ref 86] ψ = ra_I 0 φ ∧ rz_Fl υ φ ∧ rz_gct τ υ ∧ rz_gmt ψ φ) := by
  obtain ⟨nb, nl, np, nw, q1, q2, q3, q4, q5, q6⟩ := id hQ
  obtain ⟨d1, d2, d3, d4⟩ := q4
  obtain ⟨p1, p2, p3, p4⟩ := id q3
  rw [e_30, e_166, d1, d2]
  by_cases z : np = 8
  · subst z
    rw [if_neg (show ¬ nI 8 < (8 : Int32) by decide), if_pos (show nI 8 = (8 : Int32) from rfl), rz_c_fail, ra_kI, rz_b01, e_145, ra_kI, rz_b01]
    exact Or.inr ⟨_, _, rfl, rfl, rz_Fl_of h _, (rz_fn_fail _ _ _).gct, (rz_fp_fail _ _ _).gmt⟩
  rw [if_pos (show nI np < (8 : Int32) from nI_lt (b := 8) (by omega) (by omega)), if_neg (show ¬ nI np = (8 : Int32) from fun q => z (rz_nI_inj (b := 8) (by omega) (by omega) q))]
  obtain ⟨n1, k1, τ1, ψ1, e1, e2, J1, aft1, f1, g1⟩ := rz_stepJ h
  rw [e1, ra_kV, e2, ra_kV, g1.2.1 20 (by omega), d2]
  rcases rz_newP J1 (nl := np) (by omega) (fun l hl => by rw [f1.1 36 (by decide), g1.1 92 (by decide)]; exact (d4 l hl).1) with ⟨τ2, ψ2, n2, k2, wd, a1, a2, J2, aft2, f3, g3, -⟩ | ⟨υ, φ, b1, b2, b3, b4, b5⟩
  case inr =>
    rw [b1, ra_kI, rz_00, b2, ra_kI, rz_00]
    exact Or.inr ⟨υ, φ, rfl, rfl, b5, f1.fn.gct.tr b3.gct, g1.fp.gmt.tr b4.gmt⟩
  have u6 : τ2.1 1 6 = wd := by rw [f3.2.1 6 (by omega), ra_ui_get, if_pos ⟨rfl, rfl⟩]
  have u35 : τ2.1 35 0 = nI np := by rw [f3.1 35 (by decide) (by decide), ra_ui_1 35 (by decide), f1.1 35 (by decide)]; exact d1
  rw [a1, ra_kI, rz_10, a2, ra_kI, rz_10, u6, e_54, u35, if_neg (nI_pos (by omega)), if_pos (show nI np < (8 : Int32) from nI_lt (b := 8) (by omega) (by omega)), rz_ig (by omega) (by omega), rz_ig (by omega) (by omega), rz_ig (by omega) (by omega), rz_ig (by omega) (by omega), nI_clamp (by omega), ra_kV, nI_1]
  have gc2 : rz_gct τ τ2 := (f1.fn.gct.tr (rz_gct_ui _ (by omega))).tr f3.gct
  have gm2 : rz_gmt ψ ψ2 := (g1.fp.gmt.tr (rz_gmt_ui _ (by omega))).tr g3.gmt
  generalize hτ3 : ra_ui (ra_ui (ra_ui (ra_ui (ra_ui τ2 36 np wd) 41 np 0) 42 np 0) 43 np 0) 35 0 (nI (np + 1)) = τ3
  have gc3 : rz_gct τ τ3 := by
    rw [← hτ3]
    exact ((((gc2.tr (rz_gct_ui _ (by omega))).tr (rz_gct_ui _ (by omega))).tr (rz_gct_ui _ (by omega))).tr (rz_gct_ui _ (by omega))).tr (rz_gct_ui _ (by omega))
  have T3 : ∀ c, c ≠ 35 → c ≠ 36 → c ≠ 41 → c ≠ 42 → c ≠ 43 → τ3.1 c = τ2.1 c := fun c h1 h2 h3 h4 h5 => by rw [← hτ3, ra_ui_1 c h1, ra_ui_1 c h5, ra_ui_1 c h4, ra_ui_1 c h3, ra_ui_1 c h2]
  have J3 : rz_J t N n2 k2 τ3 ψ2 := rz_J_c J2 (fun c hc => T3 c (by omega) (by omega) (by omega) (by omega) (by omega)) (by rw [T3 1 (by decide) (by decide) (by decide) (by decide) (by decide)]; exact ⟨rfl, rfl⟩)
  have u30 : τ3.1 30 0 = nI nl := by rw [T3 30 (by decide) (by decide) (by decide) (by decide) (by decide), f3.1 30 (by decide) (by decide), ra_ui_1 30 (by decide), f1.1 30 (by decide)]; exact p1
  have v19 : ψ2.1 86 19 = nI nl := by rw [g3.2.1 19 (by omega), ra_ui_1 86 (by decide), g1.2.1 19 (by omega)]; exact p2
  rw [u30, v19]
  rcases rz_oldL J3 (nl := nl) p3 (fun l hl => by rw [T3 31 (by decide) (by decide) (by decide) (by decide) (by decide), f3.1 31 (by decide) (by decide), ra_ui_1 31 (by decide), f1.1 31 (by decide), g3.1 90 (by decide), ra_ui_1 90 (by decide), g1.1 90 (by decide)]; exact (p4 l hl).1) with ⟨τ4, ψ4, n4, k4, l, a3, a4, J4, aft4, f4, g4, l1, w1, w2⟩ | ⟨υ, φ, b1, b2, b3, b4, b5⟩
  case inr =>
    rw [b1, ra_kI, rz_00, b2, ra_kI, rz_00]
    exact Or.inr ⟨υ, φ, rfl, rfl, b5, gc3.tr b3.gct, gm2.tr b4.gmt⟩
  have v20 : ψ4.1 86 20 = nI np := by rw [g4.2.1 20 (by omega), g3.2.1 20 (by omega), ra_ui_1 86 (by decide), g1.2.1 20 (by omega)]; exact d2
  have i40 : (40 : Int32) + (5 : Int32) * nI np = nI (40 + 5 * np) := by rw [show (5 : Int32) * nI np = nI (5 * np) from pk_mul 5 np]; exact nI_add 40 (5 * np)
  rw [a3, ra_kI, rz_10, rz_ig (by omega) (by omega), w1, a4, ra_kI, rz_10, v20, i40, rz_ig (by omega) (by omega), nI_clamp (by omega), w2]
  have J5 : rz_J t N n4 k4 (ra_ui τ4 37 np (nI l)) (ra_ui ψ4 93 (40 + 5 * np) (nI l)) := rz_J_m (rz_J_c J4 (fun c hc => ra_ui_1 c (by omega))) (fun j hj => by rw [ra_ui_1 86 (by decide)]) ⟨ra_ui_1 87 (by decide), ra_ui_1 88 (by decide)⟩
  have gc5 : rz_gct τ (ra_ui τ4 37 np (nI l)) := (gc3.tr f4.gct).tr (rz_gct_ui _ (by omega))
  have gm5 : rz_gmt ψ (ra_ui ψ4 93 (40 + 5 * np) (nI l)) := (gm2.tr g4.gmt).tr (rz_gmt_ui _ (by omega))
  rw [show (1 : Int32) = nI 1 from rfl]
  rw [e_166_77, if_pos (show nI 1 < (4 : Int32) by decide), if_neg (show ¬ nI 1 = (3 : Int32) by decide), e_166_97]
  rcases rz_num J5 (lo := 0) (hi := 30) (by omega) (by omega) with ⟨τ6, ψ6, n6, k6, v1, c6, m6, J6, aft6, f6, g6, l6, r6, w6, x6, -⟩ | ⟨υ, φ, b1, b2, b3, b4, b5⟩
  case inr =>
    have b1' : ra_C 37 [.ref 1, .int 0, .int 30] (ra_ui τ4 37 np (nI l)) = ra_I 0 υ := b1
    have b2' : ra_C 153 [.ref 86, .int 0, .int 30] (ra_ui ψ4 93 (40 + 5 * np) (nI l)) = ra_I 0 φ := b2
    rw [b1', ra_kI, rz_00, b2', ra_kI, rz_00]
    exact Or.inr ⟨υ, φ, rfl, rfl, b5, gc5.tr b3.gct, gm5.tr b4.gmt⟩
  have c6' : ra_C 37 [.ref 1, .int 0, .int 30] (ra_ui τ4 37 np (nI l)) = ra_I 1 τ6 := c6
  have m6' : ra_C 153 [.ref 86, .int 0, .int 30] (ra_ui ψ4 93 (40 + 5 * np) (nI l)) = ra_I 1 ψ6 := m6
  rw [c6', ra_kI, rz_10, rz_ig (by omega) (by omega), w6, m6', ra_kI, rz_10, nI_add, rz_ig (by omega) (by omega), nI_clamp (by omega), x6, nI_1]
  have J7 : rz_J t N n6 k6 (ra_ui τ6 38 np (nI v1)) (ra_ui ψ6 93 (40 + 5 * np + 1) (nI v1)) := rz_J_m (rz_J_c J6 (fun c hc => ra_ui_1 c (by omega))) (fun j hj => by rw [ra_ui_1 86 (by decide)]) ⟨ra_ui_1 87 (by decide), ra_ui_1 88 (by decide)⟩
  have gc7 : rz_gct τ (ra_ui τ6 38 np (nI v1)) := (gc5.tr f6.gct).tr (rz_gct_ui _ (by omega))
  have gm7 : rz_gmt ψ (ra_ui ψ6 93 (40 + 5 * np + 1) (nI v1)) := (gm5.tr g6.gmt).tr (rz_gmt_ui _ (by omega))
  rw [e_166_77, if_pos (show nI 2 < (4 : Int32) by decide), if_neg (show ¬ nI 2 = (3 : Int32) by decide), e_166_97]
  rcases rz_num J7 (lo := 0) (hi := 30) (by omega) (by omega) with ⟨τ8, ψ8, n8, k8, v2, c8, m8, J8, aft8, f8, g8, l8, r8, w8, x8, -⟩ | ⟨υ, φ, b1, b2, b3, b4, b5⟩
  case inr =>
    have b1' : ra_C 37 [.ref 1, .int 0, .int 30] (ra_ui τ6 38 np (nI v1)) = ra_I 0 υ := b1
    have b2' : ra_C 153 [.ref 86, .int 0, .int 30] (ra_ui ψ6 93 (40 + 5 * np + 1) (nI v1)) = ra_I 0 φ := b2
    rw [b1', ra_kI, rz_00, b2', ra_kI, rz_00]
    exact Or.inr ⟨υ, φ, rfl, rfl, b5, gc7.tr b3.gct, gm7.tr b4.gmt⟩
  have c8' : ra_C 37 [.ref 1, .int 0, .int 30] (ra_ui τ6 38 np (nI v1)) = ra_I 1 τ8 := c8
  have m8' : ra_C 153 [.ref 86, .int 0, .int 30] (ra_ui ψ6 93 (40 + 5 * np + 1) (nI v1)) = ra_I 1 ψ8 := m8
  rw [c8', ra_kI, rz_10, rz_ig (by omega) (by omega), w8, m8', ra_kI, rz_10, nI_add, rz_ig (by omega) (by omega), nI_clamp (by omega), x8, nI_1]
  have J9 : rz_J t N n8 k8 (ra_ui τ8 39 np (nI v2)) (ra_ui ψ8 93 (40 + 5 * np + 2) (nI v2)) := rz_J_m (rz_J_c J8 (fun c hc => ra_ui_1 c (by omega))) (fun j hj => by rw [ra_ui_1 86 (by decide)]) ⟨ra_ui_1 87 (by decide), ra_ui_1 88 (by decide)⟩
  have gc9 : rz_gct τ (ra_ui τ8 39 np (nI v2)) := (gc7.tr f8.gct).tr (rz_gct_ui _ (by omega))
  have gm9 : rz_gmt ψ (ra_ui ψ8 93 (40 + 5 * np + 2) (nI v2)) := (gm7.tr g8.gmt).tr (rz_gmt_ui _ (by omega))
  rw [e_166_77, if_pos (show nI 3 < (4 : Int32) by decide), if_pos (show nI 3 = (3 : Int32) from rfl), e_166_97]
  rcases rz_num J9 (lo := 0) (hi := 300) (by omega) (by omega) with ⟨τ10, ψ10, n10, k10, v3, c10, m10, J10, aft10, f10, g10, l10, r10, w10, x10, -⟩ | ⟨υ, φ, b1, b2, b3, b4, b5⟩
  case inr =>
    have b1' : ra_C 37 [.ref 1, .int 0, .int 300] (ra_ui τ8 39 np (nI v2)) = ra_I 0 υ := b1
    have b2' : ra_C 153 [.ref 86, .int 0, .int 300] (ra_ui ψ8 93 (40 + 5 * np + 2) (nI v2)) = ra_I 0 φ := b2
    rw [b1', ra_kI, rz_00, b2', ra_kI, rz_00]
    exact Or.inr ⟨υ, φ, rfl, rfl, b5, gc9.tr b3.gct, gm9.tr b4.gmt⟩
  have c10' : ra_C 37 [.ref 1, .int 0, .int 300] (ra_ui τ8 39 np (nI v2)) = ra_I 1 τ10 := c10
  have m10' : ra_C 153 [.ref 86, .int 0, .int 300] (ra_ui ψ8 93 (40 + 5 * np + 2) (nI v2)) = ra_I 1 ψ10 := m10
  rw [c10', ra_kI, rz_10, rz_ig (by omega) (by omega), w10, m10', ra_kI, rz_10, nI_add, rz_ig (by omega) (by omega), nI_clamp (by omega), x10, nI_1]
  have J11 : rz_J t N n10 k10 (ra_ui τ10 40 np (nI v3)) (ra_ui ψ10 93 (40 + 5 * np + 3) (nI v3)) := rz_J_m (rz_J_c J10 (fun c hc => ra_ui_1 c (by omega))) (fun j hj => by rw [ra_ui_1 86 (by decide)]) ⟨ra_ui_1 87 (by decide), ra_ui_1 88 (by decide)⟩
  have gc11 : rz_gct τ (ra_ui τ10 40 np (nI v3)) := (gc9.tr f10.gct).tr (rz_gct_ui _ (by omega))
  have gm11 : rz_gmt ψ (ra_ui ψ10 93 (40 + 5 * np + 3) (nI v3)) := (gm9.tr g10.gmt).tr (rz_gmt_ui _ (by omega))
  have v20b : (ra_ui ψ10 93 (40 + 5 * np + 3) (nI v3)).1 86 20 = nI np := by rw [ra_ui_1 86 (by decide), g10.2.1 20 (by omega), ra_ui_1 86 (by decide), g8.2.1 20 (by omega), ra_ui_1 86 (by decide), g6.2.1 20 (by omega), ra_ui_1 86 (by decide)]; exact v20
  rw [e_166_77, if_neg (show ¬ nI 4 < (4 : Int32) by decide), show nI (40 + 5 * np) + (4 : Int32) = nI (40 + 5 * np + 4) from nI_add _ 4, rz_ig (by omega) (by omega), v20b, rz_ig (by omega) (by omega), rz_ig (by omega) (by omega), nI_clamp (by omega), nI_clamp (by omega)]
  have fin : ∀ υ φ : ra_S, υ = ra_ui τ10 40 np (nI v3) → φ = ra_ui (ra_ui (ra_ui (ra_ui ψ10 93 (40 + 5 * np + 3) (nI v3)) 93 (40 + 5 * np + 4) 0) 99 np 0) 100 np 0 → rz_J t N n10 k10 υ φ ∧ rz_Q1 n10 np υ φ ∧ rz_gct τ υ ∧ rz_gmt ψ φ := by
    intro υ φ hυ0 hφ
    have nn : n ≤ n10 := Nat.le_trans aft1.1 (Nat.le_trans aft2.1 (Nat.le_trans aft4.1 (Nat.le_trans aft6.1 (Nat.le_trans aft8.1 aft10.1))))
    refine ⟨?_, ?_, ?_, ?_⟩
    · rw [hυ0, hφ]
      exact rz_J_m J11 (fun j hj => by rw [ra_ui_1 86 (by decide), ra_ui_1 86 (by decide), ra_ui_1 86 (by decide)]) ⟨by rw [ra_ui_1 87 (by decide), ra_ui_1 87 (by decide), ra_ui_1 87 (by decide)], by rw [ra_ui_1 88 (by decide), ra_ui_1 88 (by decide), ra_ui_1 88 (by decide)]⟩
    · have hυ := hυ0
      subst hτ3
      have x36 : ∀ p, υ.1 36 p = if p = np then wd else τ.1 36 p := fun p => by
        rw [hυ, ra_ui_1 36 (by decide), f10.1 36 (by decide) (by decide), ra_ui_1 36 (by decide), f8.1 36 (by decide) (by decide), ra_ui_1 36 (by decide), f6.1 36 (by decide) (by decide), ra_ui_1 36 (by decide), f4.1 36 (by decide) (by decide), ra_ui_1 36 (by decide), ra_ui_1 36 (by decide), ra_ui_1 36 (by decide), ra_ui_1 36 (by decide), ra_ui_get]
        by_cases y : p = np
        · rw [if_pos ⟨rfl, y⟩, if_pos y]
        · rw [if_neg (fun q => y q.2), if_neg y, f3.1 36 (by decide) (by decide), ra_ui_1 36 (by decide), f1.1 36 (by decide)]
      have x37 : ∀ p, υ.1 37 p = if p = np then nI l else τ.1 37 p := fun p => by
        rw [hυ, ra_ui_1 37 (by decide), f10.1 37 (by decide) (by decide), ra_ui_1 37 (by decide), f8.1 37 (by decide) (by decide), ra_ui_1 37 (by decide), f6.1 37 (by decide) (by decide), ra_ui_get]
        by_cases y : p = np
        · rw [if_pos ⟨rfl, y⟩, if_pos y]
        · rw [if_neg (fun q => y q.2), if_neg y, f4.1 37 (by decide) (by decide), ra_ui_1 37 (by decide), ra_ui_1 37 (by decide), ra_ui_1 37 (by decide), ra_ui_1 37 (by decide), ra_ui_1 37 (by decide), f3.1 37 (by decide) (by decide), ra_ui_1 37 (by decide), f1.1 37 (by decide)]
      have x38 : ∀ p, υ.1 38 p = if p = np then nI v1 else τ.1 38 p := fun p => by
        rw [hυ, ra_ui_1 38 (by decide), f10.1 38 (by decide) (by decide), ra_ui_1 38 (by decide), f8.1 38 (by decide) (by decide), ra_ui_get]
        by_cases y : p = np
        · rw [if_pos ⟨rfl, y⟩, if_pos y]
        · rw [if_neg (fun q => y q.2), if_neg y, f6.1 38 (by decide) (by decide), ra_ui_1 38 (by decide), f4.1 38 (by decide) (by decide), ra_ui_1 38 (by decide), ra_ui_1 38 (by decide), ra_ui_1 38 (by decide), ra_ui_1 38 (by decide), ra_ui_1 38 (by decide), f3.1 38 (by decide) (by decide), ra_ui_1 38 (by decide), f1.1 38 (by decide)]
      have x39 : ∀ p, υ.1 39 p = if p = np then nI v2 else τ.1 39 p := fun p => by
        rw [hυ, ra_ui_1 39 (by decide), f10.1 39 (by decide) (by decide), ra_ui_get]
        by_cases y : p = np
        · rw [if_pos ⟨rfl, y⟩, if_pos y]
        · rw [if_neg (fun q => y q.2), if_neg y, f8.1 39 (by decide) (by decide), ra_ui_1 39 (by decide), f6.1 39 (by decide) (by decide), ra_ui_1 39 (by decide), f4.1 39 (by decide) (by decide), ra_ui_1 39 (by decide), ra_ui_1 39 (by decide), ra_ui_1 39 (by decide), ra_ui_1 39 (by decide), ra_ui_1 39 (by decide), f3.1 39 (by decide) (by decide), ra_ui_1 39 (by decide), f1.1 39 (by decide)]
      have x40 : ∀ p, υ.1 40 p = if p = np then nI v3 else τ.1 40 p := fun p => by
        rw [hυ, ra_ui_get]
        by_cases y : p = np
        · rw [if_pos ⟨rfl, y⟩, if_pos y]
        · rw [if_neg (fun q => y q.2), if_neg y, f10.1 40 (by decide) (by decide), ra_ui_1 40 (by decide), f8.1 40 (by decide) (by decide), ra_ui_1 40 (by decide), f6.1 40 (by decide) (by decide), ra_ui_1 40 (by decide), f4.1 40 (by decide) (by decide), ra_ui_1 40 (by decide), ra_ui_1 40 (by decide), ra_ui_1 40 (by decide), ra_ui_1 40 (by decide), ra_ui_1 40 (by decide), f3.1 40 (by decide) (by decide), ra_ui_1 40 (by decide), f1.1 40 (by decide)]
      have x41 : ∀ p, υ.1 41 p = if p = np then 0 else τ.1 41 p := fun p => by
        rw [hυ, ra_ui_1 41 (by decide), f10.1 41 (by decide) (by decide), ra_ui_1 41 (by decide), f8.1 41 (by decide) (by decide), ra_ui_1 41 (by decide), f6.1 41 (by decide) (by decide), ra_ui_1 41 (by decide), f4.1 41 (by decide) (by decide), ra_ui_1 41 (by decide), ra_ui_1 41 (by decide), ra_ui_1 41 (by decide), ra_ui_get]
        by_cases y : p = np
        · rw [if_pos ⟨rfl, y⟩, if_pos y]
        · rw [if_neg (fun q => y q.2), if_neg y, ra_ui_1 41 (by decide), f3.1 41 (by decide) (by decide), ra_ui_1 41 (by decide), f1.1 41 (by decide)]
      have x42 : ∀ p, υ.1 42 p = if p = np then 0 else τ.1 42 p := fun p => by
        rw [hυ, ra_ui_1 42 (by decide), f10.1 42 (by decide) (by decide), ra_ui_1 42 (by decide), f8.1 42 (by decide) (by decide), ra_ui_1 42 (by decide), f6.1 42 (by decide) (by decide), ra_ui_1 42 (by decide), f4.1 42 (by decide) (by decide), ra_ui_1 42 (by decide), ra_ui_1 42 (by decide), ra_ui_get]
        by_cases y : p = np
        · rw [if_pos ⟨rfl, y⟩, if_pos y]
        · rw [if_neg (fun q => y q.2), if_neg y, ra_ui_1 42 (by decide), ra_ui_1 42 (by decide), f3.1 42 (by decide) (by decide), ra_ui_1 42 (by decide), f1.1 42 (by decide)]
      have x43 : ∀ p, υ.1 43 p = if p = np then 0 else τ.1 43 p := fun p => by
        rw [hυ, ra_ui_1 43 (by decide), f10.1 43 (by decide) (by decide), ra_ui_1 43 (by decide), f8.1 43 (by decide) (by decide), ra_ui_1 43 (by decide), f6.1 43 (by decide) (by decide), ra_ui_1 43 (by decide), f4.1 43 (by decide) (by decide), ra_ui_1 43 (by decide), ra_ui_get]
        by_cases y : p = np
        · rw [if_pos ⟨rfl, y⟩, if_pos y]
        · rw [if_neg (fun q => y q.2), if_neg y, ra_ui_1 43 (by decide), ra_ui_1 43 (by decide), ra_ui_1 43 (by decide), f3.1 43 (by decide) (by decide), ra_ui_1 43 (by decide), f1.1 43 (by decide)]
      have C : ∀ c, c ≠ 1 ∧ c ≠ 2 ∧ c ≠ 35 ∧ c ≠ 36 ∧ c ≠ 37 ∧ c ≠ 38 ∧ c ≠ 39 ∧ c ≠ 40 ∧ c ≠ 41 ∧ c ≠ 42 ∧ c ≠ 43 → υ.1 c = τ.1 c := fun c hc => by
        obtain ⟨h1, h2, h35, h36, h37, h38, h39, h40, h41, h42, h43⟩ := hc
        rw [hυ, ra_ui_1 c h40, f10.1 c h1 h2, ra_ui_1 c h39, f8.1 c h1 h2, ra_ui_1 c h38, f6.1 c h1 h2, ra_ui_1 c h37, f4.1 c h1 h2, ra_ui_1 c h35, ra_ui_1 c h43, ra_ui_1 c h42, ra_ui_1 c h41, ra_ui_1 c h36, f3.1 c h1 h2, ra_ui_1 c h1, f1.1 c h2]
      have x35 : υ.1 35 0 = nI (np + 1) := by rw [hυ, ra_ui_1 35 (by decide), f10.1 35 (by decide) (by decide), ra_ui_1 35 (by decide), f8.1 35 (by decide) (by decide), ra_ui_1 35 (by decide), f6.1 35 (by decide) (by decide), ra_ui_1 35 (by decide), f4.1 35 (by decide) (by decide), ra_ui_get, if_pos ⟨rfl, rfl⟩]
      have M : ∀ c, c ≠ 86 ∧ c ≠ 92 ∧ c ≠ 93 ∧ c ≠ 99 ∧ c ≠ 100 → φ.1 c = ψ.1 c := fun c hc => by
        obtain ⟨h86, h92, h93, h99, h100⟩ := hc
        rw [hφ, ra_ui_1 c h100, ra_ui_1 c h99, ra_ui_1 c h93, ra_ui_1 c h93, g10.1 c h86, ra_ui_1 c h93, g8.1 c h86, ra_ui_1 c h93, g6.1 c h86, ra_ui_1 c h93, g4.1 c h86, g3.1 c h86, ra_ui_1 c h92, g1.1 c h86]
      have M86 : ∀ j, 12 ≤ j → φ.1 86 j = ψ.1 86 j := fun j hj => by
        rw [hφ, ra_ui_1 86 (by decide), ra_ui_1 86 (by decide), ra_ui_1 86 (by decide), ra_ui_1 86 (by decide), g10.2.1 j (by omega), ra_ui_1 86 (by decide), g8.2.1 j (by omega), ra_ui_1 86 (by decide), g6.2.1 j (by omega), ra_ui_1 86 (by decide), g4.2.1 j (by omega), g3.2.1 j (by omega), ra_ui_1 86 (by decide), g1.2.1 j (by omega)]
      have y92 : ∀ p, φ.1 92 (8 + p) = if p = np then wd else ψ.1 92 (8 + p) := fun p => by
        rw [hφ, ra_ui_1 92 (by decide), ra_ui_1 92 (by decide), ra_ui_1 92 (by decide), ra_ui_1 92 (by decide), g10.1 92 (by decide), ra_ui_1 92 (by decide), g8.1 92 (by decide), ra_ui_1 92 (by decide), g6.1 92 (by decide), ra_ui_1 92 (by decide), g4.1 92 (by decide), g3.1 92 (by decide), ra_ui_get]
        by_cases y : p = np
        · rw [if_pos ⟨rfl, by omega⟩, if_pos y]
        · rw [if_neg (fun q => by omega), if_neg y, g1.1 92 (by decide)]
      have y930 : φ.1 93 (40 + 5 * np) = nI l := by rw [hφ, ra_ui_1 93 (by decide), ra_ui_1 93 (by decide), ra_ui_get, if_neg (fun q => by omega), ra_ui_get, if_neg (fun q => by omega), g10.1 93 (by decide), ra_ui_get, if_neg (fun q => by omega), g8.1 93 (by decide), ra_ui_get, if_neg (fun q => by omega), g6.1 93 (by decide), ra_ui_get, if_pos ⟨rfl, rfl⟩]
      have y931 : φ.1 93 (40 + 5 * np + 1) = nI v1 := by rw [hφ, ra_ui_1 93 (by decide), ra_ui_1 93 (by decide), ra_ui_get, if_neg (fun q => by omega), ra_ui_get, if_neg (fun q => by omega), g10.1 93 (by decide), ra_ui_get, if_neg (fun q => by omega), g8.1 93 (by decide), ra_ui_get, if_pos ⟨rfl, rfl⟩]
      have y932 : φ.1 93 (40 + 5 * np + 2) = nI v2 := by rw [hφ, ra_ui_1 93 (by decide), ra_ui_1 93 (by decide), ra_ui_get, if_neg (fun q => by omega), ra_ui_get, if_neg (fun q => by omega), g10.1 93 (by decide), ra_ui_get, if_pos ⟨rfl, rfl⟩]
      have y933 : φ.1 93 (40 + 5 * np + 3) = nI v3 := by rw [hφ, ra_ui_1 93 (by decide), ra_ui_1 93 (by decide), ra_ui_get, if_neg (fun q => by omega), ra_ui_get, if_pos ⟨rfl, rfl⟩]
      have y934 : φ.1 93 (40 + 5 * np + 4) = 0 := by rw [hφ, ra_ui_1 93 (by decide), ra_ui_1 93 (by decide), ra_ui_get, if_pos ⟨rfl, rfl⟩]
      have y93 : ∀ j, j < 40 + 5 * np → φ.1 93 j = ψ.1 93 j := fun j hj => by rw [hφ, ra_ui_1 93 (by decide), ra_ui_1 93 (by decide), ra_ui_get, if_neg (fun q => by omega), ra_ui_get, if_neg (fun q => by omega), g10.1 93 (by decide), ra_ui_get, if_neg (fun q => by omega), g8.1 93 (by decide), ra_ui_get, if_neg (fun q => by omega), g6.1 93 (by decide), ra_ui_get, if_neg (fun q => by omega), g4.1 93 (by decide), g3.1 93 (by decide), ra_ui_1 93 (by decide), g1.1 93 (by decide)]
      have y99 : ∀ p, φ.1 99 p = if p = np then 0 else ψ.1 99 p := fun p => by
        rw [hφ, ra_ui_1 99 (by decide), ra_ui_get]
        by_cases y : p = np
        · rw [if_pos ⟨rfl, y⟩, if_pos y]
        · rw [if_neg (fun q => y q.2), if_neg y, ra_ui_1 99 (by decide), ra_ui_1 99 (by decide), g10.1 99 (by decide), ra_ui_1 99 (by decide), g8.1 99 (by decide), ra_ui_1 99 (by decide), g6.1 99 (by decide), ra_ui_1 99 (by decide), g4.1 99 (by decide), g3.1 99 (by decide), ra_ui_1 99 (by decide), g1.1 99 (by decide)]
      have y100 : ∀ p, φ.1 100 p = if p = np then 0 else ψ.1 100 p := fun p => by
        rw [hφ, ra_ui_get]
        by_cases y : p = np
        · rw [if_pos ⟨rfl, y⟩, if_pos y]
        · rw [if_neg (fun q => y q.2), if_neg y, ra_ui_1 100 (by decide), ra_ui_1 100 (by decide), ra_ui_1 100 (by decide), g10.1 100 (by decide), ra_ui_1 100 (by decide), g8.1 100 (by decide), ra_ui_1 100 (by decide), g6.1 100 (by decide), ra_ui_1 100 (by decide), g4.1 100 (by decide), g3.1 100 (by decide), ra_ui_1 100 (by decide), g1.1 100 (by decide)]
      refine ⟨nb, nl, nw, ?_⟩
      rw [x35, M86 20 (by omega)]
      have C5 := C 5 (by decide)
      simp only [C 29 (by decide), C 30 (by decide), C 31 (by decide), C 32 (by decide), C 33 (by decide), C 34 (by decide), C 44 (by decide), C 45 (by decide), C 46 (by decide), C 47 (by decide), C 5 (by decide), C 6 (by decide), C 7 (by decide), C 8 (by decide), C 9 (by decide), M 89 (by decide), M 90 (by decide), M 91 (by decide), M 96 (by decide), M 97 (by decide), M 98 (by decide), M86 18 (by decide), M86 19 (by decide), M86 21 (by decide), M86 22 (by decide), M86 23 (by decide), M86 24 (by decide)]
      refine ⟨q1, rz_Qb_mono q2 nn, q3, ⟨trivial, d2, rfl, rfl, by omega, fun p hp => ?_⟩, q5, rz_Qk_new (rz_Qk_mono q6 nn) y99 y100⟩
      by_cases y : p = np
      · subst y
        rw [x36, x37, x38, x39, x40, x41, x42, x43, if_pos rfl, if_pos rfl, if_pos rfl, if_pos rfl, if_pos rfl, if_pos rfl, if_pos rfl, if_pos rfl, y92, if_pos rfl, y930, y931, y932, y933, y934]
        refine ⟨rfl, ⟨l, l1, rfl, rfl⟩, ⟨rfl, ?_⟩, ⟨rfl, ?_⟩, ⟨rfl, ?_⟩, ⟨rfl, by decide⟩, rfl, rfl⟩
        · unfold rz_in; rw [nI_toInt (by omega)]; omega
        · unfold rz_in; rw [nI_toInt (by omega)]; omega
        · unfold rz_in; rw [nI_toInt (by omega)]; omega
      · rw [x36, x37, x38, x39, x40, x41, x42, x43, if_neg y, if_neg y, if_neg y, if_neg y, if_neg y, if_neg y, if_neg y, if_neg y, y92, if_neg y, y93 _ (by omega), y93 _ (by omega), y93 _ (by omega), y93 _ (by omega), y93 _ (by omega)]
        exact d4 p (by omega)
    · rw [hυ0]; exact gc11
    · rw [hφ]
      exact ((gm11.tr (rz_gmt_ui _ (by omega))).tr (rz_gmt_ui _ (by omega))).tr (rz_gmt_ui _ (by omega))
  obtain ⟨r1, r2, r3, r4⟩ := fin _ _ rfl rfl
  exact Or.inl ⟨_, _, n10, k10, np, rfl, rfl, r1, Nat.le_trans aft1.1 (Nat.le_trans aft2.1 (Nat.le_trans aft4.1 (Nat.le_trans aft6.1 (Nat.le_trans aft8.1 aft10.1)))), r2, r3, r4⟩
end RZL5
