-- ===== pause =====
theorem rz_rem (x y : Nat) (hx : x < 2 ^ 30) (hy : y < 2 ^ 30) (h0 : 0 < y) : nI x - nI x / nI y * nI y = nI (x % y) := pk_rem (by omega) h0 (by omega)
theorem rz_gcd_st {x y : Nat} : Nat.gcd y (x % y) = Nat.gcd x y := by rw [Nat.gcd_comm y, ← Nat.gcd_rec, Nat.gcd_comm]
theorem rz_c_gcd (σ : ra_S) : ∀ (z x y k : Nat), x < 2 ^ 30 → y < 2 ^ z → z ≤ 10 → k + 2 * z ≤ 40 → ∀ o0 o1 o5, ra_D (ra_lay, none, 99999, ra_m124) 7 [o0, o1, some (.int (nI x)), some (.int (nI y)), some (.int (nI k)), o5] [] σ = ra_I (nI (Nat.gcd x y)) σ := by
  intro z
  induction z with
  | zero =>
    intro x y k hx hy hz hk o0 o1 o5
    have : y = 0 := by omega
    subst this
    rw [e_124_7, if_pos (show nI k < (64 : Int32) from nI_lt (a := k) (b := 64) (by omega) (by omega)), if_pos (show nI 0 = (0 : Int32) from rfl), Nat.gcd_zero_right]
  | succ z ih =>
    intro x y k hx hy hz hk o0 o1 o5
    have hp : 2 ^ (z + 1) ≤ 2 ^ 10 := Nat.pow_le_pow_right (by omega) hz
    have hz2 : 2 ^ (z + 1) = 2 ^ z + 2 ^ z := by rw [Nat.pow_succ]; omega
    rw [e_124_7, if_pos (show nI k < (64 : Int32) from nI_lt (a := k) (b := 64) (by omega) (by omega))]
    by_cases h0 : y = 0
    · subst h0
      rw [if_pos (show nI 0 = (0 : Int32) from rfl), Nat.gcd_zero_right]
    · rw [if_neg (nI_ne0 (by omega) (by omega)), if_neg (nI_ne0 (by omega) (by omega)), rz_rem x y hx (by omega) (by omega), nI_1, ← rz_gcd_st]
      have hm : x % y < y := Nat.mod_lt _ (by omega)
      generalize x % y = r at hm ⊢
      rw [e_124_7, if_pos (show nI (k + 1) < (64 : Int32) from nI_lt (a := k + 1) (b := 64) (by omega) (by omega))]
      by_cases h1 : r = 0
      · subst h1
        rw [if_pos (show nI 0 = (0 : Int32) from rfl), Nat.gcd_zero_right]
      · rw [if_neg (nI_ne0 (by omega) (by omega)), if_neg (nI_ne0 (by omega) (by omega)), rz_rem y r (by omega) (by omega) (by omega), nI_1, ← rz_gcd_st]
        have hm2 : y % r < r := Nat.mod_lt _ (by omega)
        have hm3 : y % r + r ≤ y := by
          have := Nat.div_add_mod y r
          have hd : 1 ≤ y / r := Nat.div_pos (Nat.le_of_lt hm) (by omega)
          have : r * 1 ≤ r * (y / r) := Nat.mul_le_mul_left r hd
          omega
        exact ih r (y % r) (k + 1 + 1) (by omega) (by omega) (by omega) (by omega) o0 o1 _
theorem rz_m_gcd (σ : ra_S) : ∀ (y x : Nat), x < 2 ^ 30 → y < 2 ^ 30 → ∀ o0 o1 o4, ra_D (ra_lay, none, 99999, ra_m239) 4 [o0, o1, some (.int (nI x)), some (.int (nI y)), o4] [] σ = ra_I (nI (Nat.gcd x y)) σ := by
  intro y
  induction y using Nat.strongRecOn with
  | _ y ih =>
    intro x hx hy o0 o1 o4
    rw [e_239_4]
    by_cases h0 : y = 0
    · subst h0
      rw [if_pos (show nI 0 = (0 : Int32) from rfl), Nat.gcd_zero_right]
    · have hm : x % y < y := Nat.mod_lt _ (by omega)
      rw [if_neg (nI_ne0 (by omega) (by omega)), if_neg (nI_ne0 (by omega) (by omega)), rz_rem x y hx hy (by omega), ← rz_gcd_st]
      exact ih (x % y) hm y hy (by omega) o0 o1 _
theorem rz_sum_le {f : Nat → Nat} {b : Nat} : ∀ n, (∀ k, k < n → f k ≤ b) → rz_sum f n ≤ n * b
  | 0, _ => by simp [rz_sum]
  | n + 1, h => by
    have := rz_sum_le n (fun k hk => h k (by omega))
    have := h n (by omega)
    show rz_sum f n + f n ≤ _
    rw [Nat.succ_mul]
    omega
theorem rz_sum_ge {f : Nat → Nat} : ∀ n k, k < n → f k ≤ rz_sum f n
  | n + 1, k, h => by
    show f k ≤ rz_sum f n + f n
    by_cases q : k = n
    · subst q; omega
    · have := rz_sum_ge (f := f) n k (by omega)
      omega
theorem rz_pause {σ : ra_S} (h : rz_R σ) (a b : Int32) : rz_OI 123 240 [.int a, .int b] σ := by
  obtain ⟨np, nb, nl, nw, ku, tp, nn, tc, hc, -, hp, -⟩ := id h
  obtain ⟨⟨c1, c2, c3⟩, -⟩ := hc
  have k1 := ra_m_isPlayer (σ := ra_ui σ 86 2 0) c2 c3
  by_cases v1 : 0 ≤ a.toInt ∧ a.toInt < np
  · have f1 : ¬ (if 0 ≤ a.toInt ∧ a.toInt < np then (1 : Int32) else 0) = 0 := by rw [ra_b0]; exact fun q => q v1
    by_cases v2 : 0 ≤ b.toInt ∧ b.toInt ≤ 1
    · have f2 : ¬ (if (0 : Int32).toInt ≤ b.toInt ∧ b.toInt ≤ (1 : Int32).toInt then (1 : Int32) else 0) = 0 := by rw [ra_b0]; exact fun q => q v2
      obtain ⟨dr, hd⟩ : ∃ dr : Nat → Nat, ∀ p, p < np → dr p ≤ 99 ∧ σ.1 22 p = nI (dr p) ∧ σ.1 93 (5 * p + 4) = nI (dr p) := by
        refine ⟨fun p => (σ.1 93 (5 * p + 4)).toNatClampNeg, fun p hpp => ?_⟩
        obtain ⟨-, -, -, ⟨d1, d2⟩, -⟩ := hp p hpp
        obtain ⟨j, hj, ej⟩ := rz_nat' (n := 99) (by omega) d2
        dsimp only
        rw [d1, ej, nI_clamp (by omega)]
        exact ⟨hj, rfl, rfl⟩
      obtain ⟨p, hpp, rfl⟩ := rz_nat (by omega) v1
      have hS : rz_sum dr np ≤ 8 * 99 := Nat.le_trans (rz_sum_le np (fun k hk => (hd k hk).1)) (Nat.mul_le_mul_right 99 c3)
      have hge : dr p ≤ rz_sum dr np := rz_sum_ge np p hpp
      have hdp := (hd p hpp).1
      have hsn : ∀ k, k ≤ np → rz_sum dr k ≤ 8 * 99 := fun k hk => Nat.le_trans (rz_sum_le k (fun j hj => (hd j (by omega)).1)) (Nat.mul_le_mul_right 99 (by omega))
      refine ⟨if rz_sum dr np = 0 then 0 else if b = 0 then nI (dr p / Nat.gcd (rz_sum dr np) (dr p)) else nI (rz_sum dr np / Nat.gcd (rz_sum dr np) (dr p)), σ, ra_ui σ 86 2 0, ?_, ?_, rz_R_ui rfl h⟩
      · rw [e_123, ra_c_isPlayer c1 c3, ra_kI, if_neg f1, ra_c_within, ra_kI, if_neg f2]
        have loop : ∀ d k, k + d = np → ra_D (ra_lay, none, 99999, ra_m123) 24 [some (.ref 0), some (.int (nI p)), some (.int b), some (.int (nI (rz_sum dr k))), some (.int (nI k)), none] [] σ = ra_I (if rz_sum dr np = 0 then 0 else if b = 0 then nI (dr p / Nat.gcd (rz_sum dr np) (dr p)) else nI (rz_sum dr np / Nat.gcd (rz_sum dr np) (dr p))) σ := by
          intro d
          induction d with
          | succ d ih =>
            intro k hk
            rw [e_123_24, c1, if_pos (nI_lt (by omega) (by omega)), if_pos (show nI k < (8 : Int32) from nI_lt (a := k) (b := 8) (by omega) (by omega)), if_pos (rz_gd (N := 8) (by omega) (by omega)), nI_clamp (by omega), (hd k (by omega)).2.1, nI_add, nI_1]
            exact ih (k + 1) (by omega)
          | zero =>
            intro k hk
            have : k = np := by omega
            subst this
            rw [e_123_24, c1, if_neg (nI_nlt (Nat.le_refl _) (by omega)), e_123_68, if_pos (rz_gd (N := 8) (by omega) (by omega)), nI_clamp (by omega), (hd p hpp).2.1, e_124, show (0 : Int32) = nI 0 from rfl, rz_c_gcd σ 7 (rz_sum dr k) (dr p) 0 (by omega) (by omega) (by omega) (by omega), ra_kI]
            by_cases g0 : Nat.gcd (rz_sum dr k) (dr p) = 0
            · have := (Nat.gcd_eq_zero_iff.mp g0).1
              rw [g0, if_pos rfl, if_pos this]
            · have gne : rz_sum dr k ≠ 0 := fun q => g0 (by rw [q, show dr p = 0 by omega]; rfl)
              have gle : Nat.gcd (rz_sum dr k) (dr p) ≤ rz_sum dr k := Nat.gcd_le_left _ (by omega)
              rw [if_neg (fun q => g0 ((nI_eq (by omega) (by omega)).mp q)), if_neg gne, if_neg (fun q => g0 ((nI_eq (by omega) (by omega)).mp q)), if_neg (fun q => g0 ((nI_eq (by omega) (by omega)).mp q)), pk_div (by omega) (by omega) (by omega), pk_div (by omega) (by omega) (by omega)]
              split <;> rfl
        exact loop np 0 (by omega)
      · rw [e_240, k1, ra_kI, if_neg f1, ra_m_isIn, ra_kI, if_neg f2]
        generalize hτ : ra_ui σ 86 2 0 = τ
        have t1 : τ.1 86 14 = nI np := by subst hτ; exact c2
        have t2 : ∀ k, k < np → τ.1 93 (5 * k + 4) = nI (dr k) := by subst hτ; exact fun k hk => (hd k hk).2.2
        have loop : ∀ d k, k + d = np → ra_D (ra_lay, none, 99999, ra_m240) 29 [some (.ref 86), some (.int (nI p)), some (.int b), some (.int (nI (rz_sum dr k))), some (.int (nI k))] [] τ = ra_I (if rz_sum dr np = 0 then 0 else if b = 0 then nI (dr p / Nat.gcd (rz_sum dr np) (dr p)) else nI (rz_sum dr np / Nat.gcd (rz_sum dr np) (dr p))) τ := by
          intro d
          induction d with
          | succ d ih =>
            intro k hk
            rw [e_240_29, t1, if_pos (nI_lt (by omega) (by omega)), rz_mul5_4, if_pos (rz_gd (N := 80) (by omega) (by omega)), nI_clamp (by omega), t2 k (by omega), nI_add, nI_1]
            exact ih (k + 1) (by omega)
          | zero =>
            intro k hk
            have : k = np := by omega
            subst this
            rw [e_240_29, t1, if_neg (nI_nlt (Nat.le_refl _) (by omega))]
            by_cases g0 : rz_sum dr k = 0
            · rw [g0, if_pos (show nI 0 = (0 : Int32) from rfl), if_pos rfl]
            · have gle : Nat.gcd (rz_sum dr k) (dr p) ≤ rz_sum dr k := Nat.gcd_le_left _ (by omega)
              have gpos : 0 < Nat.gcd (rz_sum dr k) (dr p) := Nat.gcd_pos_of_pos_left _ (by omega)
              have hg : ra_C 239 [.int (nI (dr p)), .int (nI (rz_sum dr k))] τ = ra_I (nI (Nat.gcd (rz_sum dr k) (dr p))) τ := by
                rw [e_239, rz_m_gcd τ (rz_sum dr k) (dr p) (by omega) (by omega), Nat.gcd_comm]
              rw [if_neg (nI_ne0 (by omega) (by omega)), if_neg g0, rz_mul5_4, if_pos (rz_gd (N := 80) (by omega) (by omega)), nI_clamp (by omega), t2 p hpp, hg, ra_kI, ra_kI, if_neg (nI_ne0 gpos (by omega)), if_neg (nI_ne0 gpos (by omega)), pk_div (by omega) (by omega) (by omega), pk_div (by omega) (by omega) (by omega)]
              split <;> rfl
        exact loop np 0 (by omega)
    · refine ⟨-1, σ, ra_ui σ 86 2 0, ?_, ?_, rz_R_ui rfl h⟩
      · rw [e_123, ra_c_isPlayer c1 c3, ra_kI, if_neg f1, ra_c_within, ra_kI, if_pos (by rw [ra_b0]; exact v2)]
      · rw [e_240, k1, ra_kI, if_neg f1, ra_m_isIn, ra_kI, if_pos (by rw [ra_b0]; exact v2)]
  · refine ⟨-1, σ, ra_ui σ 86 2 0, ?_, ?_, rz_R_ui rfl h⟩
    · rw [e_123, ra_c_isPlayer c1 c3, ra_kI, if_pos (by rw [ra_b0]; exact v1)]
    · rw [e_240, k1, ra_kI, if_pos (by rw [ra_b0]; exact v1)]
