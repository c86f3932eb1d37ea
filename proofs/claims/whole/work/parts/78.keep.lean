-- ===== text: the class settles its stage, the reference keeps what was read; written by wip/whole/gen78.py =====
theorem rz_c_setl (τ : ra_S) : ∃ υ : ra_S, ra_C 67 [.ref 48, .ref 16] τ = ra_V υ ∧ (∀ c, c ≠ 48 → c ≠ 49 → c ≠ 50 → c ≠ 51 → υ.1 c = τ.1 c) ∧ (∀ p, p < 8 → υ.1 49 p = τ.1 19 p ∧ υ.1 50 p = τ.1 20 p ∧ υ.1 51 p = 0) ∧ υ.1 48 3 = 0 ∧ υ.1 48 4 = 0 ∧ υ.2 = τ.2 := by
  have loop : ∀ (d i : Nat) (υ : ra_S), i + d = 8 → (∀ c, c ≠ 48 → c ≠ 49 → c ≠ 50 → c ≠ 51 → υ.1 c = τ.1 c) → (∀ p, p < i → υ.1 49 p = τ.1 19 p ∧ υ.1 50 p = τ.1 20 p ∧ υ.1 51 p = 0) → υ.2 = τ.2 → ∃ υ' : ra_S, ra_D (ra_lay, none, 99999, ra_m67) 2 [some (.ref 48), some (.ref 16), some (.int (nI i))] [] υ = ra_V υ' ∧ (∀ c, c ≠ 48 → c ≠ 49 → c ≠ 50 → c ≠ 51 → υ'.1 c = τ.1 c) ∧ (∀ p, p < 8 → υ'.1 49 p = τ.1 19 p ∧ υ'.1 50 p = τ.1 20 p ∧ υ'.1 51 p = 0) ∧ υ'.1 48 3 = 0 ∧ υ'.1 48 4 = 0 ∧ υ'.2 = τ.2 := by
    intro d
    induction d with
    | zero =>
      intro i υ hi h1 h2 h3
      have : i = 8 := by omega
      subst this
      rw [e_67_2, if_neg (show ¬ nI 8 < (8 : Int32) by decide)]
      refine ⟨_, rfl, fun c c1 c2 c3 c4 => ?_, fun p hp => ?_, rfl, rfl, h3⟩
      · rw [ra_ui_1 c c1, ra_ui_1 c c1]; exact h1 c c1 c2 c3 c4
      · rw [ra_ui_1 49 (by decide), ra_ui_1 49 (by decide), ra_ui_1 50 (by decide), ra_ui_1 50 (by decide), ra_ui_1 51 (by decide), ra_ui_1 51 (by decide)]; exact h2 p hp
    | succ d ih =>
      intro i υ hi h1 h2 h3
      rw [e_67_2, if_pos (show nI i < (8 : Int32) from nI_lt (b := 8) (by omega) (by omega)), rz_ig (by omega) (by omega), rz_ig (by omega) (by omega), rz_ig (by omega) (by omega), rz_ig (by omega) (by omega), rz_ig (by omega) (by omega), nI_clamp (by omega), nI_1]
      refine ih (i + 1) _ (by omega) (fun c c1 c2 c3 c4 => ?_) (fun p hp => ?_) h3
      · rw [ra_ui_1 c c4, ra_ui_1 c c3, ra_ui_1 c c2]; exact h1 c c1 c2 c3 c4
      · rw [h1 19 (by decide) (by decide) (by decide) (by decide), h1 20 (by decide) (by decide) (by decide) (by decide)]
        refine ⟨?_, ?_, ?_⟩
        · rw [ra_ui_1 49 (by decide), ra_ui_1 49 (by decide), ra_ui_get]
          by_cases y : p = i
          · rw [if_pos ⟨rfl, y⟩, y]
          · rw [if_neg (fun q => y q.2)]; exact (h2 p (by omega)).1
        · rw [ra_ui_1 50 (by decide), ra_ui_get]
          by_cases y : p = i
          · rw [if_pos ⟨rfl, y⟩, y]
          · rw [if_neg (fun q => y q.2), ra_ui_1 50 (by decide)]; exact (h2 p (by omega)).2.1
        · rw [ra_ui_get]
          by_cases y : p = i
          · rw [if_pos ⟨rfl, y⟩]
          · rw [if_neg (fun q => y q.2), ra_ui_1 51 (by decide), ra_ui_1 51 (by decide)]; exact (h2 p (by omega)).2.2
  obtain ⟨υ, e, q⟩ := loop 8 0 τ (by omega) (fun _ _ _ _ _ => rfl) (fun p hp => absurd hp (Nat.not_lt_zero p)) rfl
  exact ⟨υ, by rw [e_67]; exact e, q⟩
theorem rz_cp89 (ψ : ra_S) : ∃ υ : ra_S, ra_C 156 [.ref 89, .int (40 : Int32)] ψ = ra_V υ ∧ (∀ c', c' ≠ 89 → υ.1 c' = ψ.1 c') ∧ (∀ k, k < 40 → υ.1 89 k = ψ.1 89 (40 + k)) ∧ υ.2 = ψ.2 := by
  have loop : ∀ (d i : Nat) (υ : ra_S), i + d = 40 → (∀ c', c' ≠ 89 → υ.1 c' = ψ.1 c') → (∀ k, k < i → υ.1 89 k = ψ.1 89 (40 + k)) → (∀ k, 40 ≤ k → υ.1 89 k = ψ.1 89 k) → υ.2 = ψ.2 → ∃ υ' : ra_S, ra_D (ra_lay, none, 99999, ra_m156) 2 [some (.ref 89), some (.int (nI 40)), some (.int (nI i))] [] υ = ra_V υ' ∧ (∀ c', c' ≠ 89 → υ'.1 c' = ψ.1 c') ∧ (∀ k, k < 40 → υ'.1 89 k = ψ.1 89 (40 + k)) ∧ υ'.2 = ψ.2 := by
    intro d
    induction d with
    | zero =>
      intro i υ hi h1 h2 h3 h4
      have : i = 40 := by omega
      subst this
      rw [e_156_2, rz_inl (by omega) (by omega)]
      exact ⟨υ, rfl, h1, h2, h4⟩
    | succ d ih =>
      intro i υ hi h1 h2 h3 h4
      rw [e_156_2, rz_il (by omega) (by omega), nI_add, rz_ig (by omega) (by omega), rz_ig (by omega) (by omega), nI_clamp (by omega), nI_clamp (by omega), nI_1]
      refine ih (i + 1) _ (by omega) (fun c' hc' => (ra_ui_1 c' hc').trans (h1 c' hc')) (fun k hk => ?_) (fun k hk => ?_) h4
      · rw [ra_ui_get]
        by_cases y : k = i
        · rw [if_pos ⟨rfl, y⟩, y]; exact h3 _ (by omega)
        · rw [if_neg (fun q => y q.2)]; exact h2 k (by omega)
      · rw [ra_ui_get, if_neg (fun q => by omega)]; exact h3 k hk
  obtain ⟨υ, e, q⟩ := loop 40 0 ψ (by omega) (fun _ _ => rfl) (fun k hk => absurd hk (Nat.not_lt_zero k)) (fun _ _ => rfl) rfl
  exact ⟨υ, by rw [e_156]; exact e, q⟩
theorem rz_cp90 (ψ : ra_S) : ∃ υ : ra_S, ra_C 156 [.ref 90, .int (6 : Int32)] ψ = ra_V υ ∧ (∀ c', c' ≠ 90 → υ.1 c' = ψ.1 c') ∧ (∀ k, k < 6 → υ.1 90 k = ψ.1 90 (6 + k)) ∧ υ.2 = ψ.2 := by
  have loop : ∀ (d i : Nat) (υ : ra_S), i + d = 6 → (∀ c', c' ≠ 90 → υ.1 c' = ψ.1 c') → (∀ k, k < i → υ.1 90 k = ψ.1 90 (6 + k)) → (∀ k, 6 ≤ k → υ.1 90 k = ψ.1 90 k) → υ.2 = ψ.2 → ∃ υ' : ra_S, ra_D (ra_lay, none, 99999, ra_m156) 2 [some (.ref 90), some (.int (nI 6)), some (.int (nI i))] [] υ = ra_V υ' ∧ (∀ c', c' ≠ 90 → υ'.1 c' = ψ.1 c') ∧ (∀ k, k < 6 → υ'.1 90 k = ψ.1 90 (6 + k)) ∧ υ'.2 = ψ.2 := by
    intro d
    induction d with
    | zero =>
      intro i υ hi h1 h2 h3 h4
      have : i = 6 := by omega
      subst this
      rw [e_156b_2, rz_inl (by omega) (by omega)]
      exact ⟨υ, rfl, h1, h2, h4⟩
    | succ d ih =>
      intro i υ hi h1 h2 h3 h4
      rw [e_156b_2, rz_il (by omega) (by omega), nI_add, rz_ig (by omega) (by omega), rz_ig (by omega) (by omega), nI_clamp (by omega), nI_clamp (by omega), nI_1]
      refine ih (i + 1) _ (by omega) (fun c' hc' => (ra_ui_1 c' hc').trans (h1 c' hc')) (fun k hk => ?_) (fun k hk => ?_) h4
      · rw [ra_ui_get]
        by_cases y : k = i
        · rw [if_pos ⟨rfl, y⟩, y]; exact h3 _ (by omega)
        · rw [if_neg (fun q => y q.2)]; exact h2 k (by omega)
      · rw [ra_ui_get, if_neg (fun q => by omega)]; exact h3 k hk
  obtain ⟨υ, e, q⟩ := loop 6 0 ψ (by omega) (fun _ _ => rfl) (fun k hk => absurd hk (Nat.not_lt_zero k)) (fun _ _ => rfl) rfl
  exact ⟨υ, by rw [e_156b]; exact e, q⟩
theorem rz_cp91 (ψ : ra_S) : ∃ υ : ra_S, ra_C 156 [.ref 91, .int (36 : Int32)] ψ = ra_V υ ∧ (∀ c', c' ≠ 91 → υ.1 c' = ψ.1 c') ∧ (∀ k, k < 36 → υ.1 91 k = ψ.1 91 (36 + k)) ∧ υ.2 = ψ.2 := by
  have loop : ∀ (d i : Nat) (υ : ra_S), i + d = 36 → (∀ c', c' ≠ 91 → υ.1 c' = ψ.1 c') → (∀ k, k < i → υ.1 91 k = ψ.1 91 (36 + k)) → (∀ k, 36 ≤ k → υ.1 91 k = ψ.1 91 k) → υ.2 = ψ.2 → ∃ υ' : ra_S, ra_D (ra_lay, none, 99999, ra_m156) 2 [some (.ref 91), some (.int (nI 36)), some (.int (nI i))] [] υ = ra_V υ' ∧ (∀ c', c' ≠ 91 → υ'.1 c' = ψ.1 c') ∧ (∀ k, k < 36 → υ'.1 91 k = ψ.1 91 (36 + k)) ∧ υ'.2 = ψ.2 := by
    intro d
    induction d with
    | zero =>
      intro i υ hi h1 h2 h3 h4
      have : i = 36 := by omega
      subst this
      rw [e_156c_2, rz_inl (by omega) (by omega)]
      exact ⟨υ, rfl, h1, h2, h4⟩
    | succ d ih =>
      intro i υ hi h1 h2 h3 h4
      rw [e_156c_2, rz_il (by omega) (by omega), nI_add, rz_ig (by omega) (by omega), rz_ig (by omega) (by omega), nI_clamp (by omega), nI_clamp (by omega), nI_1]
      refine ih (i + 1) _ (by omega) (fun c' hc' => (ra_ui_1 c' hc').trans (h1 c' hc')) (fun k hk => ?_) (fun k hk => ?_) h4
      · rw [ra_ui_get]
        by_cases y : k = i
        · rw [if_pos ⟨rfl, y⟩, y]; exact h3 _ (by omega)
        · rw [if_neg (fun q => y q.2)]; exact h2 k (by omega)
      · rw [ra_ui_get, if_neg (fun q => by omega)]; exact h3 k hk
  obtain ⟨υ, e, q⟩ := loop 36 0 ψ (by omega) (fun _ _ => rfl) (fun k hk => absurd hk (Nat.not_lt_zero k)) (fun _ _ => rfl) rfl
  exact ⟨υ, by rw [e_156c]; exact e, q⟩
theorem rz_cp92 (ψ : ra_S) : ∃ υ : ra_S, ra_C 156 [.ref 92, .int (8 : Int32)] ψ = ra_V υ ∧ (∀ c', c' ≠ 92 → υ.1 c' = ψ.1 c') ∧ (∀ k, k < 8 → υ.1 92 k = ψ.1 92 (8 + k)) ∧ υ.2 = ψ.2 := by
  have loop : ∀ (d i : Nat) (υ : ra_S), i + d = 8 → (∀ c', c' ≠ 92 → υ.1 c' = ψ.1 c') → (∀ k, k < i → υ.1 92 k = ψ.1 92 (8 + k)) → (∀ k, 8 ≤ k → υ.1 92 k = ψ.1 92 k) → υ.2 = ψ.2 → ∃ υ' : ra_S, ra_D (ra_lay, none, 99999, ra_m156) 2 [some (.ref 92), some (.int (nI 8)), some (.int (nI i))] [] υ = ra_V υ' ∧ (∀ c', c' ≠ 92 → υ'.1 c' = ψ.1 c') ∧ (∀ k, k < 8 → υ'.1 92 k = ψ.1 92 (8 + k)) ∧ υ'.2 = ψ.2 := by
    intro d
    induction d with
    | zero =>
      intro i υ hi h1 h2 h3 h4
      have : i = 8 := by omega
      subst this
      rw [e_156d_2, rz_inl (by omega) (by omega)]
      exact ⟨υ, rfl, h1, h2, h4⟩
    | succ d ih =>
      intro i υ hi h1 h2 h3 h4
      rw [e_156d_2, rz_il (by omega) (by omega), nI_add, rz_ig (by omega) (by omega), rz_ig (by omega) (by omega), nI_clamp (by omega), nI_clamp (by omega), nI_1]
      refine ih (i + 1) _ (by omega) (fun c' hc' => (ra_ui_1 c' hc').trans (h1 c' hc')) (fun k hk => ?_) (fun k hk => ?_) h4
      · rw [ra_ui_get]
        by_cases y : k = i
        · rw [if_pos ⟨rfl, y⟩, y]; exact h3 _ (by omega)
        · rw [if_neg (fun q => y q.2)]; exact h2 k (by omega)
      · rw [ra_ui_get, if_neg (fun q => by omega)]; exact h3 k hk
  obtain ⟨υ, e, q⟩ := loop 8 0 ψ (by omega) (fun _ _ => rfl) (fun k hk => absurd hk (Nat.not_lt_zero k)) (fun _ _ => rfl) rfl
  exact ⟨υ, by rw [e_156d]; exact e, q⟩
theorem rz_cp93 (ψ : ra_S) : ∃ υ : ra_S, ra_C 156 [.ref 93, .int (40 : Int32)] ψ = ra_V υ ∧ (∀ c', c' ≠ 93 → υ.1 c' = ψ.1 c') ∧ (∀ k, k < 40 → υ.1 93 k = ψ.1 93 (40 + k)) ∧ υ.2 = ψ.2 := by
  have loop : ∀ (d i : Nat) (υ : ra_S), i + d = 40 → (∀ c', c' ≠ 93 → υ.1 c' = ψ.1 c') → (∀ k, k < i → υ.1 93 k = ψ.1 93 (40 + k)) → (∀ k, 40 ≤ k → υ.1 93 k = ψ.1 93 k) → υ.2 = ψ.2 → ∃ υ' : ra_S, ra_D (ra_lay, none, 99999, ra_m156) 2 [some (.ref 93), some (.int (nI 40)), some (.int (nI i))] [] υ = ra_V υ' ∧ (∀ c', c' ≠ 93 → υ'.1 c' = ψ.1 c') ∧ (∀ k, k < 40 → υ'.1 93 k = ψ.1 93 (40 + k)) ∧ υ'.2 = ψ.2 := by
    intro d
    induction d with
    | zero =>
      intro i υ hi h1 h2 h3 h4
      have : i = 40 := by omega
      subst this
      rw [e_156e_2, rz_inl (by omega) (by omega)]
      exact ⟨υ, rfl, h1, h2, h4⟩
    | succ d ih =>
      intro i υ hi h1 h2 h3 h4
      rw [e_156e_2, rz_il (by omega) (by omega), nI_add, rz_ig (by omega) (by omega), rz_ig (by omega) (by omega), nI_clamp (by omega), nI_clamp (by omega), nI_1]
      refine ih (i + 1) _ (by omega) (fun c' hc' => (ra_ui_1 c' hc').trans (h1 c' hc')) (fun k hk => ?_) (fun k hk => ?_) h4
      · rw [ra_ui_get]
        by_cases y : k = i
        · rw [if_pos ⟨rfl, y⟩, y]; exact h3 _ (by omega)
        · rw [if_neg (fun q => y q.2)]; exact h2 k (by omega)
      · rw [ra_ui_get, if_neg (fun q => by omega)]; exact h3 k hk
  obtain ⟨υ, e, q⟩ := loop 40 0 ψ (by omega) (fun _ _ => rfl) (fun k hk => absurd hk (Nat.not_lt_zero k)) (fun _ _ => rfl) rfl
  exact ⟨υ, by rw [e_156e]; exact e, q⟩
theorem rz_cp94 (ψ : ra_S) : ∃ υ : ra_S, ra_C 156 [.ref 94, .int (8 : Int32)] ψ = ra_V υ ∧ (∀ c', c' ≠ 94 → υ.1 c' = ψ.1 c') ∧ (∀ k, k < 8 → υ.1 94 k = ψ.1 94 (8 + k)) ∧ υ.2 = ψ.2 := by
  have loop : ∀ (d i : Nat) (υ : ra_S), i + d = 8 → (∀ c', c' ≠ 94 → υ.1 c' = ψ.1 c') → (∀ k, k < i → υ.1 94 k = ψ.1 94 (8 + k)) → (∀ k, 8 ≤ k → υ.1 94 k = ψ.1 94 k) → υ.2 = ψ.2 → ∃ υ' : ra_S, ra_D (ra_lay, none, 99999, ra_m156) 2 [some (.ref 94), some (.int (nI 8)), some (.int (nI i))] [] υ = ra_V υ' ∧ (∀ c', c' ≠ 94 → υ'.1 c' = ψ.1 c') ∧ (∀ k, k < 8 → υ'.1 94 k = ψ.1 94 (8 + k)) ∧ υ'.2 = ψ.2 := by
    intro d
    induction d with
    | zero =>
      intro i υ hi h1 h2 h3 h4
      have : i = 8 := by omega
      subst this
      rw [e_156f_2, rz_inl (by omega) (by omega)]
      exact ⟨υ, rfl, h1, h2, h4⟩
    | succ d ih =>
      intro i υ hi h1 h2 h3 h4
      rw [e_156f_2, rz_il (by omega) (by omega), nI_add, rz_ig (by omega) (by omega), rz_ig (by omega) (by omega), nI_clamp (by omega), nI_clamp (by omega), nI_1]
      refine ih (i + 1) _ (by omega) (fun c' hc' => (ra_ui_1 c' hc').trans (h1 c' hc')) (fun k hk => ?_) (fun k hk => ?_) h4
      · rw [ra_ui_get]
        by_cases y : k = i
        · rw [if_pos ⟨rfl, y⟩, y]; exact h3 _ (by omega)
        · rw [if_neg (fun q => y q.2)]; exact h2 k (by omega)
      · rw [ra_ui_get, if_neg (fun q => by omega)]; exact h3 k hk
  obtain ⟨υ, e, q⟩ := loop 8 0 ψ (by omega) (fun _ _ => rfl) (fun k hk => absurd hk (Nat.not_lt_zero k)) (fun _ _ => rfl) rfl
  exact ⟨υ, by rw [e_156f]; exact e, q⟩
theorem rz_cp95 (ψ : ra_S) : ∃ υ : ra_S, ra_C 156 [.ref 95, .int (8 : Int32)] ψ = ra_V υ ∧ (∀ c', c' ≠ 95 → υ.1 c' = ψ.1 c') ∧ (∀ k, k < 8 → υ.1 95 k = ψ.1 95 (8 + k)) ∧ υ.2 = ψ.2 := by
  have loop : ∀ (d i : Nat) (υ : ra_S), i + d = 8 → (∀ c', c' ≠ 95 → υ.1 c' = ψ.1 c') → (∀ k, k < i → υ.1 95 k = ψ.1 95 (8 + k)) → (∀ k, 8 ≤ k → υ.1 95 k = ψ.1 95 k) → υ.2 = ψ.2 → ∃ υ' : ra_S, ra_D (ra_lay, none, 99999, ra_m156) 2 [some (.ref 95), some (.int (nI 8)), some (.int (nI i))] [] υ = ra_V υ' ∧ (∀ c', c' ≠ 95 → υ'.1 c' = ψ.1 c') ∧ (∀ k, k < 8 → υ'.1 95 k = ψ.1 95 (8 + k)) ∧ υ'.2 = ψ.2 := by
    intro d
    induction d with
    | zero =>
      intro i υ hi h1 h2 h3 h4
      have : i = 8 := by omega
      subst this
      rw [e_156g_2, rz_inl (by omega) (by omega)]
      exact ⟨υ, rfl, h1, h2, h4⟩
    | succ d ih =>
      intro i υ hi h1 h2 h3 h4
      rw [e_156g_2, rz_il (by omega) (by omega), nI_add, rz_ig (by omega) (by omega), rz_ig (by omega) (by omega), nI_clamp (by omega), nI_clamp (by omega), nI_1]
      refine ih (i + 1) _ (by omega) (fun c' hc' => (ra_ui_1 c' hc').trans (h1 c' hc')) (fun k hk => ?_) (fun k hk => ?_) h4
      · rw [ra_ui_get]
        by_cases y : k = i
        · rw [if_pos ⟨rfl, y⟩, y]; exact h3 _ (by omega)
        · rw [if_neg (fun q => y q.2)]; exact h2 k (by omega)
      · rw [ra_ui_get, if_neg (fun q => by omega)]; exact h3 k hk
  obtain ⟨υ, e, q⟩ := loop 8 0 ψ (by omega) (fun _ _ => rfl) (fun k hk => absurd hk (Nat.not_lt_zero k)) (fun _ _ => rfl) rfl
  exact ⟨υ, by rw [e_156g]; exact e, q⟩
theorem rz_cp96 (ψ : ra_S) : ∃ υ : ra_S, ra_C 156 [.ref 96, .int (21 : Int32)] ψ = ra_V υ ∧ (∀ c', c' ≠ 96 → υ.1 c' = ψ.1 c') ∧ (∀ k, k < 21 → υ.1 96 k = ψ.1 96 (21 + k)) ∧ υ.2 = ψ.2 := by
  have loop : ∀ (d i : Nat) (υ : ra_S), i + d = 21 → (∀ c', c' ≠ 96 → υ.1 c' = ψ.1 c') → (∀ k, k < i → υ.1 96 k = ψ.1 96 (21 + k)) → (∀ k, 21 ≤ k → υ.1 96 k = ψ.1 96 k) → υ.2 = ψ.2 → ∃ υ' : ra_S, ra_D (ra_lay, none, 99999, ra_m156) 2 [some (.ref 96), some (.int (nI 21)), some (.int (nI i))] [] υ = ra_V υ' ∧ (∀ c', c' ≠ 96 → υ'.1 c' = ψ.1 c') ∧ (∀ k, k < 21 → υ'.1 96 k = ψ.1 96 (21 + k)) ∧ υ'.2 = ψ.2 := by
    intro d
    induction d with
    | zero =>
      intro i υ hi h1 h2 h3 h4
      have : i = 21 := by omega
      subst this
      rw [e_156h_2, rz_inl (by omega) (by omega)]
      exact ⟨υ, rfl, h1, h2, h4⟩
    | succ d ih =>
      intro i υ hi h1 h2 h3 h4
      rw [e_156h_2, rz_il (by omega) (by omega), nI_add, rz_ig (by omega) (by omega), rz_ig (by omega) (by omega), nI_clamp (by omega), nI_clamp (by omega), nI_1]
      refine ih (i + 1) _ (by omega) (fun c' hc' => (ra_ui_1 c' hc').trans (h1 c' hc')) (fun k hk => ?_) (fun k hk => ?_) h4
      · rw [ra_ui_get]
        by_cases y : k = i
        · rw [if_pos ⟨rfl, y⟩, y]; exact h3 _ (by omega)
        · rw [if_neg (fun q => y q.2)]; exact h2 k (by omega)
      · rw [ra_ui_get, if_neg (fun q => by omega)]; exact h3 k hk
  obtain ⟨υ, e, q⟩ := loop 21 0 ψ (by omega) (fun _ _ => rfl) (fun k hk => absurd hk (Nat.not_lt_zero k)) (fun _ _ => rfl) rfl
  exact ⟨υ, by rw [e_156h]; exact e, q⟩
theorem rz_m_taken (ψ : ra_S) : ∃ υ : ra_S, ra_D (ra_lay, none, 99999, ra_m157) 122 [some (.ref 86), some (.int (0 : Int32))] [] ψ = ra_V (ra_ui (ra_ui (ra_ui υ 86 47 0) 86 48 (-1)) 86 43 0) ∧ (∀ c, c ≠ 101 → υ.1 c = ψ.1 c) ∧ (∀ p, p < 8 → υ.1 101 p = 0) ∧ υ.2 = ψ.2 := by
  have loop : ∀ (d i : Nat) (υ : ra_S), i + d = 8 → (∀ c, c ≠ 101 → υ.1 c = ψ.1 c) → (∀ p, p < i → υ.1 101 p = 0) → υ.2 = ψ.2 → ∃ υ' : ra_S, ra_D (ra_lay, none, 99999, ra_m157) 122 [some (.ref 86), some (.int (nI i))] [] υ = ra_V (ra_ui (ra_ui (ra_ui υ' 86 47 0) 86 48 (-1)) 86 43 0) ∧ (∀ c, c ≠ 101 → υ'.1 c = ψ.1 c) ∧ (∀ p, p < 8 → υ'.1 101 p = 0) ∧ υ'.2 = ψ.2 := by
    intro d
    induction d with
    | zero =>
      intro i υ hi h1 h2 h3
      have : i = 8 := by omega
      subst this
      rw [e_157_122, if_neg (show ¬ nI 8 < (8 : Int32) by decide)]
      exact ⟨υ, rfl, h1, h2, h3⟩
    | succ d ih =>
      intro i υ hi h1 h2 h3
      rw [e_157_122, if_pos (show nI i < (8 : Int32) from nI_lt (b := 8) (by omega) (by omega)), rz_ig (by omega) (by omega), nI_clamp (by omega), nI_1]
      refine ih (i + 1) _ (by omega) (fun c hc => (ra_ui_1 c hc).trans (h1 c hc)) (fun p hp => ?_) h3
      rw [ra_ui_get]
      by_cases y : p = i
      · rw [if_pos ⟨rfl, y⟩]
      · rw [if_neg (fun q => y q.2)]; exact h2 p (by omega)
  obtain ⟨υ, e, q⟩ := loop 8 0 ψ (by omega) (fun _ _ => rfl) (fun p hp => absurd hp (Nat.not_lt_zero p)) rfl
  exact ⟨υ, e, q⟩
theorem rz_m_keep (ψ : ra_S) : ∃ υ : ra_S, ra_C 157 [.ref 86] ψ = ra_V υ ∧ (∀ c, c ≠ 86 → ¬ (89 ≤ c ∧ c ≤ 96) → c ≠ 101 → υ.1 c = ψ.1 c) ∧ ((∀ k, k < 40 → υ.1 89 k = ψ.1 89 (40 + k)) ∧ (∀ k, k < 6 → υ.1 90 k = ψ.1 90 (6 + k)) ∧ (∀ k, k < 36 → υ.1 91 k = ψ.1 91 (36 + k)) ∧ (∀ k, k < 8 → υ.1 92 k = ψ.1 92 (8 + k)) ∧ (∀ k, k < 40 → υ.1 93 k = ψ.1 93 (40 + k)) ∧ (∀ k, k < 8 → υ.1 94 k = ψ.1 94 (8 + k)) ∧ (∀ k, k < 8 → υ.1 95 k = ψ.1 95 (8 + k)) ∧ (∀ k, k < 21 → υ.1 96 k = ψ.1 96 (21 + k))) ∧ (∀ p, p < 8 → υ.1 101 p = 0) ∧
    (υ.1 86 12 = ψ.1 86 18 ∧ υ.1 86 13 = ψ.1 86 19 ∧ υ.1 86 14 = ψ.1 86 20 ∧ υ.1 86 15 = ψ.1 86 21 ∧ υ.1 86 16 = ψ.1 86 22 ∧ υ.1 86 17 = ψ.1 86 23) ∧ (υ.1 86 47 = 0 ∧ υ.1 86 48 = -1 ∧ υ.1 86 43 = 0) ∧ (∀ k, ¬ (12 ≤ k ∧ k ≤ 17) → k ≠ 43 → k ≠ 47 → k ≠ 48 → υ.1 86 k = ψ.1 86 k) ∧ υ.2 = ψ.2 := by
  obtain ⟨s0, h0⟩ : ∃ s0 : ra_S, s0 = ra_ui (ra_ui (ra_ui (ra_ui (ra_ui (ra_ui ψ 86 12 (ψ.1 86 18)) 86 13 (ψ.1 86 19)) 86 14 (ψ.1 86 20)) 86 15 (ψ.1 86 21)) 86 16 (ψ.1 86 22)) 86 17 (ψ.1 86 23) := ⟨_, rfl⟩
  have z0 : ∀ c, c ≠ 86 → s0.1 c = ψ.1 c := fun c hc => by rw [h0, ra_ui_1 c hc, ra_ui_1 c hc, ra_ui_1 c hc, ra_ui_1 c hc, ra_ui_1 c hc, ra_ui_1 c hc]
  obtain ⟨s1, e1, f1, g1, l1⟩ := rz_cp89 s0
  obtain ⟨s2, e2, f2, g2, l2⟩ := rz_cp90 s1
  obtain ⟨s3, e3, f3, g3, l3⟩ := rz_cp91 s2
  obtain ⟨s4, e4, f4, g4, l4⟩ := rz_cp92 s3
  obtain ⟨s5, e5, f5, g5, l5⟩ := rz_cp93 s4
  obtain ⟨s6, e6, f6, g6, l6⟩ := rz_cp94 s5
  obtain ⟨s7, e7, f7, g7, l7⟩ := rz_cp95 s6
  obtain ⟨s8, e8, f8, g8, l8⟩ := rz_cp96 s7
  obtain ⟨s9, e9, f9, g9, l9⟩ := rz_m_taken s8
  have F : ∀ c, ¬ (89 ≤ c ∧ c ≤ 96) → c ≠ 101 → s9.1 c = s0.1 c := fun c h1 h2 => by rw [f9 c h2, f8 c (by omega), f7 c (by omega), f6 c (by omega), f5 c (by omega), f4 c (by omega), f3 c (by omega), f2 c (by omega), f1 c (by omega)]
  refine ⟨_, by rw [e_157, ← h0, e1, ra_kV, e2, ra_kV, e3, ra_kV, e4, ra_kV, e5, ra_kV, e6, ra_kV, e7, ra_kV, e8, ra_kV, e9], fun c c1 c2 c3 => ?_, ?_, fun p hp => ?_, ?_, ?_, fun k k1 k2 k3 k4 => ?_, ?_⟩
  · rw [ra_ui_1 c c1, ra_ui_1 c c1, ra_ui_1 c c1, F c c2 c3, z0 c c1]
  · refine ⟨fun k hk => ?_, fun k hk => ?_, fun k hk => ?_, fun k hk => ?_, fun k hk => ?_, fun k hk => ?_, fun k hk => ?_, fun k hk => ?_⟩
    · rw [ra_ui_1 89 (by decide), ra_ui_1 89 (by decide), ra_ui_1 89 (by decide), f9 89 (by decide), f8 89 (by decide), f7 89 (by decide), f6 89 (by decide), f5 89 (by decide), f4 89 (by decide), f3 89 (by decide), f2 89 (by decide), g1 k hk, z0 89 (by decide)]
    · rw [ra_ui_1 90 (by decide), ra_ui_1 90 (by decide), ra_ui_1 90 (by decide), f9 90 (by decide), f8 90 (by decide), f7 90 (by decide), f6 90 (by decide), f5 90 (by decide), f4 90 (by decide), f3 90 (by decide), g2 k hk, f1 90 (by decide), z0 90 (by decide)]
    · rw [ra_ui_1 91 (by decide), ra_ui_1 91 (by decide), ra_ui_1 91 (by decide), f9 91 (by decide), f8 91 (by decide), f7 91 (by decide), f6 91 (by decide), f5 91 (by decide), f4 91 (by decide), g3 k hk, f2 91 (by decide), f1 91 (by decide), z0 91 (by decide)]
    · rw [ra_ui_1 92 (by decide), ra_ui_1 92 (by decide), ra_ui_1 92 (by decide), f9 92 (by decide), f8 92 (by decide), f7 92 (by decide), f6 92 (by decide), f5 92 (by decide), g4 k hk, f3 92 (by decide), f2 92 (by decide), f1 92 (by decide), z0 92 (by decide)]
    · rw [ra_ui_1 93 (by decide), ra_ui_1 93 (by decide), ra_ui_1 93 (by decide), f9 93 (by decide), f8 93 (by decide), f7 93 (by decide), f6 93 (by decide), g5 k hk, f4 93 (by decide), f3 93 (by decide), f2 93 (by decide), f1 93 (by decide), z0 93 (by decide)]
    · rw [ra_ui_1 94 (by decide), ra_ui_1 94 (by decide), ra_ui_1 94 (by decide), f9 94 (by decide), f8 94 (by decide), f7 94 (by decide), g6 k hk, f5 94 (by decide), f4 94 (by decide), f3 94 (by decide), f2 94 (by decide), f1 94 (by decide), z0 94 (by decide)]
    · rw [ra_ui_1 95 (by decide), ra_ui_1 95 (by decide), ra_ui_1 95 (by decide), f9 95 (by decide), f8 95 (by decide), g7 k hk, f6 95 (by decide), f5 95 (by decide), f4 95 (by decide), f3 95 (by decide), f2 95 (by decide), f1 95 (by decide), z0 95 (by decide)]
    · rw [ra_ui_1 96 (by decide), ra_ui_1 96 (by decide), ra_ui_1 96 (by decide), f9 96 (by decide), g8 k hk, f7 96 (by decide), f6 96 (by decide), f5 96 (by decide), f4 96 (by decide), f3 96 (by decide), f2 96 (by decide), f1 96 (by decide), z0 96 (by decide)]
  · rw [ra_ui_1 101 (by decide), ra_ui_1 101 (by decide), ra_ui_1 101 (by decide)]; exact g9 p hp
  · simp only [ra_ui_get, F 86 (by decide) (by decide), h0, Nat.reduceEqDiff, and_false, and_true, true_and, if_true, if_false, reduceIte, and_self]
  · simp only [ra_ui_get, Nat.reduceEqDiff, and_false, and_true, true_and, if_true, if_false, reduceIte, and_self]
  · rw [ra_ui_get, if_neg (fun q => by omega), ra_ui_get, if_neg (fun q => by omega), ra_ui_get, if_neg (fun q => by omega), F 86 (by decide) (by decide), h0, ra_ui_get, if_neg (fun q => by omega), ra_ui_get, if_neg (fun q => by omega), ra_ui_get, if_neg (fun q => by omega), ra_ui_get, if_neg (fun q => by omega), ra_ui_get, if_neg (fun q => by omega), ra_ui_get, if_neg (fun q => by omega)]
  · show s9.2 = ψ.2
    rw [l9, l8, l7, l6, l5, l4, l3, l2, l1, h0]
    rfl
