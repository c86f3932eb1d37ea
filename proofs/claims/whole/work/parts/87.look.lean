-- ===== look: what both sides answer =====
def rz_Lq (a b : Int32) (σ : ra_S) (k v : Int32) : Prop :=
  (k = 0 ∧ ra_C 81 [.ref 0, .int a, .int b] σ = ra_I v σ) ∨
  (k = 1 ∧ ra_D (ra_lay, none, 8, ra_m81) 0 [some (.ref 0), some (.int a), some (.int b), none] [] σ = some (.inr ([some (.ref 0), some (.int a), some (.int b), none], []), σ)) ∨
  (k = 2 ∧ ra_D (ra_lay, none, 137, ra_m81) 0 [some (.ref 0), some (.int a), some (.int b), none] [] σ = some (.inr ([some (.ref 0), some (.int a), some (.int b), some (.ref 16)], []), σ))
theorem rz_look {σ : ra_S} (h : rz_R σ) (a b : Int32) : ∃ k v : Int32, rz_Lq a b σ k v ∧ ∃ (x : Int32) (σ2 : ra_S), ra_C 176 [.ref 86, .int a, .int b] (if k = 0 then ra_ul σ 115 0 v.toInt64 else σ) = ra_I x σ2 ∧ σ2.1 86 2 = k ∧ (k = 0 → x = v ∧ σ2.2 115 0 = v.toInt64) ∧ rz_R σ2 := by
  obtain ⟨np, nb, nl, nw, ku, tp, nn, tc, r1, r2, r3, r4, r5, r6, -, -, -, -⟩ := id h
  have hp1 := r1.1.1
  have hp2 := r1.1.2.1
  have np8 := r1.1.2.2
  have cP := ra_c_isPlayer hp1 np8 a
  by_cases pl : 0 ≤ a.toInt ∧ a.toInt < np
  · rw [if_pos pl] at cP
    obtain ⟨p, hp, rfl⟩ : ∃ p : Nat, p < np ∧ a = nI p := ⟨a.toInt.toNat, by omega, Int32.toInt_inj.mp (by rw [nI_toInt (by omega)]; omega)⟩
    obtain ⟨l1, ⟨l, l2, l3, l4⟩, ⟨l5, -⟩, ⟨l6, -⟩, ⟨s1, -, s2, s3⟩, ⟨s4, -, s5, s6⟩⟩ := r3 p hp
    obtain ⟨⟨g1, -⟩, ⟨g2, -⟩, g3, -⟩ := r6 p hp
    have m5 : (5 : Int32) * nI p = nI (5 * p) := pk_mul 5 p
    have good : ∀ (v : Int32), ra_C 81 [.ref 0, .int (nI p), .int b] σ = ra_I v σ → (∀ τ : ra_S, (∀ c, τ.1 c = σ.1 c) → ra_C 176 [.ref 86, .int (nI p), .int b] τ = ra_I v (ra_ui τ 86 2 0)) → ∃ k v : Int32, rz_Lq (nI p) b σ k v ∧ ∃ (x : Int32) (σ2 : ra_S), ra_C 176 [.ref 86, .int (nI p), .int b] (if k = 0 then ra_ul σ 115 0 v.toInt64 else σ) = ra_I x σ2 ∧ σ2.1 86 2 = k ∧ (k = 0 → x = v ∧ σ2.2 115 0 = v.toInt64) ∧ rz_R σ2 := by
      intro v h1 h2
      refine ⟨0, v, Or.inl ⟨rfl, h1⟩, v, ra_ui (ra_ul σ 115 0 v.toInt64) 86 2 0, ?_, ?_, fun _ => ⟨rfl, ?_⟩, rz_R_ui rfl (rz_R_ul h)⟩
      · rw [if_pos rfl]; exact h2 _ (fun _ => rfl)
      · rw [ra_ui_get, if_pos ⟨rfl, rfl⟩]
      · rw [ra_ui_2, ra_ul_get, if_pos ⟨rfl, rfl⟩]
    have mP : ∀ τ : ra_S, (∀ c, τ.1 c = σ.1 c) → ra_C 173 [.ref 86, .int (nI p)] (ra_ui τ 86 2 0) = ra_I 1 (ra_ui τ 86 2 0) := fun τ hτ => by
      rw [ra_m_isPlayer (np := np) (by rw [ra_ui_get, if_neg (by decide), hτ 86]; exact hp2) np8, if_pos pl]
    by_cases b0 : b = 0
    · subst b0
      refine good (nI l) (by rw [e_81, cP, ra_kI, rz_10, if_pos rfl, rz_ig (by omega) (by omega), nI_clamp (by omega), l3]) (fun τ hτ => ?_)
      rw [e_176, mP τ hτ, ra_kI, rz_10, if_pos rfl, m5, rz_ig (by omega) (by omega), nI_clamp (by omega), ra_ui_1 93 (by decide), hτ 93, l4]
    by_cases b1 : b = 1
    · subst b1
      refine good (σ.1 93 (5 * p + 1)) (by rw [e_81, cP, ra_kI, rz_10, if_neg b0, if_pos rfl, rz_ig (by omega) (by omega), nI_clamp (by omega), g1]) (fun τ hτ => ?_)
      rw [e_176, mP τ hτ, ra_kI, rz_10, if_neg b0, if_pos rfl, m5, nI_1, rz_ig (by omega) (by omega), nI_clamp (by omega), ra_ui_1 93 (by decide), hτ 93]
    by_cases b2 : b = 2
    · subst b2
      refine good (σ.1 93 (5 * p + 2)) (by rw [e_81, cP, ra_kI, rz_10, if_neg b0, if_neg b1, if_pos rfl, rz_ig (by omega) (by omega), nI_clamp (by omega), g2]) (fun τ hτ => ?_)
      rw [e_176, mP τ hτ, ra_kI, rz_10, if_neg b0, if_neg b1, if_pos rfl, m5, show nI (5 * p) + (2 : Int32) = nI (5 * p + 2) from nI_add _ 2, rz_ig (by omega) (by omega), nI_clamp (by omega), ra_ui_1 93 (by decide), hτ 93]
    by_cases b3 : b = 3
    · subst b3
      refine good (σ.1 93 (5 * p + 3)) (by rw [e_81, cP, ra_kI, rz_10, if_neg b0, if_neg b1, if_neg b2, if_pos rfl, rz_ig (by omega) (by omega), nI_clamp (by omega), l5]) (fun τ hτ => ?_)
      rw [e_176, mP τ hτ, ra_kI, rz_10, if_neg b0, if_neg b1, if_neg b2, if_pos rfl, m5, show nI (5 * p) + (3 : Int32) = nI (5 * p + 3) from nI_add _ 3, rz_ig (by omega) (by omega), nI_clamp (by omega), ra_ui_1 93 (by decide), hτ 93]
    by_cases b4 : b = 4
    · subst b4
      refine good (σ.1 93 (5 * p + 4)) (by rw [e_81, cP, ra_kI, rz_10, if_neg b0, if_neg b1, if_neg b2, if_neg b3, if_pos rfl, rz_ig (by omega) (by omega), nI_clamp (by omega), l6]) (fun τ hτ => ?_)
      rw [e_176, mP τ hτ, ra_kI, rz_10, if_neg b0, if_neg b1, if_neg b2, if_neg b3, if_pos rfl, m5, show nI (5 * p) + (4 : Int32) = nI (5 * p + 4) from nI_add _ 4, rz_ig (by omega) (by omega), nI_clamp (by omega), ra_ui_1 93 (by decide), hτ 93]
    by_cases b5 : b = 5
    · subst b5
      refine good (nI s1) (by rw [e_81, cP, ra_kI, rz_10, if_neg b0, if_neg b1, if_neg b2, if_neg b3, if_neg b4, if_pos rfl, rz_ig (by omega) (by omega), nI_clamp (by omega), s2]) (fun τ hτ => ?_)
      rw [e_176, mP τ hτ, ra_kI, rz_10, if_neg b0, if_neg b1, if_neg b2, if_neg b3, if_neg b4, if_pos rfl, rz_ig (by omega) (by omega), nI_clamp (by omega), ra_ui_1 94 (by decide), hτ 94, s3]
    by_cases b6 : b = 6
    · subst b6
      refine good (nI s4) (by rw [e_81, cP, ra_kI, rz_10, if_neg b0, if_neg b1, if_neg b2, if_neg b3, if_neg b4, if_neg b5, if_pos rfl, rz_ig (by omega) (by omega), nI_clamp (by omega), s5]) (fun τ hτ => ?_)
      rw [e_176, mP τ hτ, ra_kI, rz_10, if_neg b0, if_neg b1, if_neg b2, if_neg b3, if_neg b4, if_neg b5, if_pos rfl, rz_ig (by omega) (by omega), nI_clamp (by omega), ra_ui_1 95 (by decide), hτ 95, s6]
    by_cases b7 : b = 7
    · subst b7
      refine good (σ.1 101 p) (by rw [e_81, cP, ra_kI, rz_10, if_neg b0, if_neg b1, if_neg b2, if_neg b3, if_neg b4, if_neg b5, if_neg b6, if_pos rfl, rz_ig (by omega) (by omega), nI_clamp (by omega), g3]) (fun τ hτ => ?_)
      rw [e_176, mP τ hτ, ra_kI, rz_10, if_neg b0, if_neg b1, if_neg b2, if_neg b3, if_neg b4, if_neg b5, if_neg b6, if_pos rfl, rz_ig (by omega) (by omega), nI_clamp (by omega), ra_ui_1 101 (by decide), hτ 101]
    refine ⟨2, 0, Or.inr (Or.inr ⟨rfl, ?_⟩), 0, ra_ui (ra_ui σ 86 2 0) 86 2 2, ?_, ?_, fun q => absurd q (by decide), rz_R_ui rfl (rz_R_ui rfl h)⟩
    · rw [e_81b, cP, ra_kI, rz_10, if_neg b0, if_neg b1, if_neg b2, if_neg b3, if_neg b4, if_neg b5, if_neg b6, if_neg b7]
    · rw [if_neg (by decide), e_176, mP σ (fun _ => rfl), ra_kI, rz_10, if_neg b0, if_neg b1, if_neg b2, if_neg b3, if_neg b4, if_neg b5, if_neg b6, if_neg b7, e_175, ra_kI]
    · rw [ra_ui_get, if_pos ⟨rfl, rfl⟩]
  · rw [if_neg pl] at cP
    refine ⟨1, 0, Or.inr (Or.inl ⟨rfl, ?_⟩), 0, ra_ui (ra_ui σ 86 2 0) 86 2 1, ?_, ?_, fun q => absurd q (by decide), rz_R_ui rfl (rz_R_ui rfl h)⟩
    · rw [e_81a, cP, ra_kI, rz_00]
    · rw [if_neg (by decide), e_176, ra_m_isPlayer (np := np) (by rw [ra_ui_get, if_neg (by decide)]; exact hp2) np8, if_neg pl, ra_kI, rz_00, e_175, ra_kI]
    · rw [ra_ui_get, if_pos ⟨rfl, rfl⟩]
