-- ===== way, shift (below), pause =====
theorem rz_mul5 (p k : Nat) : (5 : Int32) * nI p + nI k = nI (5 * p + k) := by
  rw [show (5 : Int32) * nI p = nI (5 * p) from pk_mul 5 p, nI_add]
theorem rz_mul5_1 (p : Nat) : (5 : Int32) * nI p + (1 : Int32) = nI (5 * p + 1) := rz_mul5 p 1
theorem rz_mul5_2 (p : Nat) : (5 : Int32) * nI p + (2 : Int32) = nI (5 * p + 2) := rz_mul5 p 2
theorem rz_mul5_3 (p : Nat) : (5 : Int32) * nI p + (3 : Int32) = nI (5 * p + 3) := rz_mul5 p 3
theorem rz_mul5_4 (p : Nat) : (5 : Int32) * nI p + (4 : Int32) = nI (5 * p + 4) := rz_mul5 p 4
theorem rz_gd {k : Nat} {N : Int} (hk : k < 2 ^ 31) (h : (k : Int) < N) : 0 ≤ (nI k).toInt ∧ (nI k).toInt < N := by rw [nI_toInt hk]; omega
/-- where players sit: whole numbers, on both sides -/
theorem rz_seat_nat {np : Nat} {σ : ra_S} (hs : rz_stage np σ) {p : Nat} (hp : p < np) : ∃ x y : Nat, x ≤ 30 ∧ y ≤ 30 ∧ σ.1 49 p = nI x ∧ σ.1 93 (5 * p + 1) = nI x ∧ σ.1 50 p = nI y ∧ σ.1 93 (5 * p + 2) = nI y := by
  obtain ⟨⟨h1, h2⟩, ⟨h3, h4⟩, -⟩ := hs p hp
  obtain ⟨x, hx, ex⟩ := rz_nat' (n := 30) (by omega) h2
  obtain ⟨y, hy, ey⟩ := rz_nat' (n := 30) (by omega) h4
  exact ⟨x, y, hx, hy, h1.trans ex, ex, h3.trans ey, ey⟩
/-- the way between players, by the reference's places -/
theorem rz_m_wayB {τ : ra_S} {p q x y x2 y2 n : Nat} (hp : p < 8) (hq : q < 8) (h1 : τ.1 93 (5 * p + 1) = nI x) (h2 : τ.1 93 (5 * p + 2) = nI y) (h3 : τ.1 93 (5 * q + 1) = nI x2) (h4 : τ.1 93 (5 * q + 2) = nI y2) (hn : n < 65536) (h : (9 : Int64) * ((nI x - nI x2) * (nI x - nI x2) + (nI y - nI y2) * (nI y - nI y2)).toInt64 = lN n) : ra_C 180 [.ref 86, .int (nI p), .int (nI q)] τ = ra_I (nI (rz_sq n)) τ := by
  rw [e_180, rz_mul5_1, rz_mul5_2, rz_mul5_1, rz_mul5_2, if_pos (rz_gd (N := 80) (by omega) (by omega)), if_pos (rz_gd (N := 80) (by omega) (by omega)), if_pos (rz_gd (N := 80) (by omega) (by omega)), if_pos (rz_gd (N := 80) (by omega) (by omega)), nI_clamp (by omega), nI_clamp (by omega), nI_clamp (by omega), nI_clamp (by omega), h1, h2, h3, h4, rz_m_wayOf τ hn h, ra_kI]
theorem rz_way {σ : ra_S} (h : rz_R σ) (a b : Int32) : rz_OI 85 181 [.int a, .int b] σ := by
  obtain ⟨np, nb, nl, nw, ku, tp, nn, tc, hc, -, -, -, -, hs, -⟩ := id h
  obtain ⟨⟨c1, c2, c3⟩, -⟩ := hc
  have k1 := ra_m_isPlayer (σ := ra_ui σ 86 2 0) c2 c3
  by_cases v1 : 0 ≤ a.toInt ∧ a.toInt < np
  · by_cases v2 : 0 ≤ b.toInt ∧ b.toInt < np
    · have f1 : ¬ (if 0 ≤ a.toInt ∧ a.toInt < np then (1 : Int32) else 0) = 0 := by rw [ra_b0]; exact fun q => q v1
      have f2 : ¬ (if 0 ≤ b.toInt ∧ b.toInt < np then (1 : Int32) else 0) = 0 := by rw [ra_b0]; exact fun q => q v2
      have w1 : 0 ≤ a.toInt ∧ a.toInt < 8 := by omega
      have w2 : 0 ≤ b.toInt ∧ b.toInt < 8 := by omega
      obtain ⟨p, hp, rfl⟩ := rz_nat (by omega) v1
      obtain ⟨q, hq, rfl⟩ := rz_nat (by omega) v2
      obtain ⟨x, y, hx, hy, e1, e2, e3, e4⟩ := rz_seat_nat hs hp
      obtain ⟨x2, y2, hx2, hy2, e5, e6, e7, e8⟩ := rz_seat_nat hs hq
      obtain ⟨n, hn, u1, u2⟩ := rz_under (a := x) (b := x2) (c := y) (d := y2) (by omega) (by omega) (by omega) (by omega)
      refine ⟨nI (rz_sq n), σ, ra_ui σ 86 2 0, ?_, ?_, rz_R_ui rfl h⟩
      · rw [e_85, ra_c_isPlayer c1 c3, ra_kI, if_neg f1, ra_c_isPlayer c1 c3, ra_kI, if_neg f2, if_pos w1, if_pos w2, if_pos w1, if_pos w2, nI_clamp (by omega), nI_clamp (by omega), e1, e3, e5, e7, rz_c_way σ hn u1, ra_kI]
      · rw [e_181, k1, ra_kI, if_neg f1, k1, ra_kI, if_neg f2, rz_m_wayB (τ := ra_ui σ 86 2 0) (by omega) (by omega) e2 e4 e6 e8 hn u2, ra_kI]
    · refine ⟨-1, σ, ra_ui σ 86 2 0, ?_, ?_, rz_R_ui rfl h⟩
      · rw [e_85, ra_c_isPlayer c1 c3, ra_kI, if_neg (by rw [ra_b0]; exact fun q => q v1), ra_c_isPlayer c1 c3, ra_kI, if_pos (by rw [ra_b0]; exact v2)]
      · rw [e_181, k1, ra_kI, if_neg (by rw [ra_b0]; exact fun q => q v1), k1, ra_kI, if_pos (by rw [ra_b0]; exact v2)]
  · refine ⟨-1, σ, ra_ui σ 86 2 0, ?_, ?_, rz_R_ui rfl h⟩
    · rw [e_85, ra_c_isPlayer c1 c3, ra_kI, if_pos (by rw [ra_b0]; exact v1)]
    · rw [e_181, k1, ra_kI, if_pos (by rw [ra_b0]; exact v1)]
