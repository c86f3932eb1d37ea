-- ===== the reference's entry of a player at a beat =====
/-- the reference's store as the entries need it -/
def rz_MA (E : rz_En) (np nb : Nat) (τ : ra_S) : Prop := τ.1 86 14 = nI np ∧ τ.1 86 12 = nI nb ∧ np ≤ 8 ∧ nb ≤ 40 ∧ (∀ p, p < np → rz_MP E np (decide (¬ τ.1 86 39 < 0)) τ p) ∧ (∀ p q, p < np → q < np → rz_see E p q = (rz_on τ q && rz_bit (τ.1 94 p) q) ∧ rz_hear E p q = (rz_on τ q && rz_bit (τ.1 95 p) q)) ∧ ∃ len : Nat → Nat, (∀ k, k < nb → τ.1 89 k = nI (len k)) ∧ (∀ n, n ≤ nb → rz_bg E n = (rz_sum len n : Int)) ∧ rz_sum len nb ≤ 10000000
theorem rz_sum_mono (f : Nat → Nat) {n m : Nat} (h : n ≤ m) : rz_sum f n ≤ rz_sum f m := by
  induction m with
  | zero => have : n = 0 := by omega
            subst this; exact Nat.le_refl _
  | succ m ih =>
    by_cases z : n = m + 1
    · subst z; exact Nat.le_refl _
    · have := ih (by omega); rw [rz_sum]; omega
theorem rz_wL {w : Int} (h : 0 ≤ w ∧ w ≤ 9) : (Int32.ofInt w).toInt64 = rz_L w := rz_oL (by omega)
set_option maxHeartbeats 2000000 in
theorem rz_m_hear {E : rz_En} {np nb b p k : Nat} {τ : ra_S} (h : rz_MA E np nb τ) (ok : rz_Eok E np nb) (hb1 : 1 ≤ b) (hb : b < nb) (hp : p < np) (hk : k < np) {r1 r2 : Nat → Int} (i1 : ∀ q, -1000000000 ≤ r1 q ∧ r1 q ≤ 1000000000) (i2 : ∀ q, -1000000000 ≤ r2 q ∧ r2 q ≤ 1000000000) (h1 : ∀ q, q < np → rz_on τ q = true → τ.1 102 (8 * (b - 1) + q) = Int32.ofInt (r1 q)) (h2 : b ≠ 1 → τ.1 102 (8 * (b - 2) + p) = Int32.ofInt (r2 p)) (op : rz_on τ p = true) (ok' : rz_on τ k = true) {l : Nat} (hl : l < 12) (el : τ.1 93 (5 * p) = nI l) (T W : Int) (o9 o10 : Option Value) :
    ∃ o9' o10', ra_D (ra_lay, none, 99999, ra_m188) 144 [some (.ref 86), some (.int (nI p)), some (.int (nI b)), some (.int (nI (6 * l))), some (.long (rz_L T)), none, some (.long (rz_L W)), none, some (.int (nI k)), o9, o10] [] τ = ra_D (ra_lay, none, 99999, ra_m188) 76 [some (.ref 86), some (.int (nI p)), some (.int (nI b)), some (.int (nI (6 * l))), some (.long (rz_L (T + (if rz_hear E p k then rz_w E p 3 else 0) * (r1 k + rz_gap E b r1 r2 p + rz_dl E p k)))), none, some (.long (rz_L (W + (if rz_hear E p k then rz_w E p 3 else 0)))), none, some (.int (nI (k + 1))), o9', o10'] [] τ := by
  obtain ⟨a1, a2, a3, a4, a5, a6, len, a7, a8, a9⟩ := h
  have mp := a5 p hp
  have w3 := ok.1 p hp 3 (by omega)
  have eh := (a6 p k hp hk).2
  rw [ok', Bool.true_and] at eh
  rw [e_188_144, if_pos (rz_gd (N := 16) (by omega) (by omega)), nI_clamp (by omega), rz_m_bit, ra_kI]
  by_cases z : rz_bit (τ.1 95 p) k = true
  · have tp := rz_m_tempo (E := E) (np := np) (q := k) (p := p) a7 hb1 hb a4 (Nat.le_trans (rz_sum_mono len (by omega)) a9) (a8 1 (by omega)) i1 i2 (h1 p hp op) (h1 k hk ok') h2 (by omega) (by omega)
    have ww := rz_m_w (j := 3) mp (by rw [decide_eq_true_iff]) (by omega) (by omega)
    rw [if_pos z, if_neg (by decide), tp, ra_kJ, rz_mul5_3, if_pos (rz_gd (N := 80) (by omega) (by omega)), nI_clamp (by omega)]
    obtain ⟨l', hl', e1, -, -, -, b1, b2, b3, b4⟩ := id mp
    obtain ⟨_, -, -, -, -, -, c1, c2, c3, -⟩ := a5 k hk
    sorry
  · rw [eh, if_neg z, if_pos rfl, if_neg z, if_neg z, Int.zero_mul, Int.add_zero, Int.add_zero, nI_1]
    exact ⟨o9, o10, rfl⟩
