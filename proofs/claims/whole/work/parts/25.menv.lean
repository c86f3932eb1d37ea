-- ===== ways and bits for the entries =====
noncomputable def rz_wyf (x y x2 y2 : Int32) : Nat := rz_sq ((9 : Int32) * ((x - x2) * (x - x2) + (y - y2) * (y - y2))).toNatClampNeg
theorem rz_i40 {x : Int32} (h : rz_in x 0 40) : ∃ a : Nat, a ≤ 40 ∧ x = nI a := by
  obtain ⟨h1, h2⟩ := h
  refine ⟨x.toInt.toNat, by omega, ?_⟩
  rw [← Int32.toInt_inj, nI_toInt (by omega)]
  omega
theorem rz_c_wyf (σ : ra_S) {x y x2 y2 : Int32} (h1 : rz_in x 0 40) (h2 : rz_in y 0 40) (h3 : rz_in x2 0 40) (h4 : rz_in y2 0 40) : ra_C 138 [.int (x - x2), .int (y - y2)] σ = ra_I (nI (rz_wyf x y x2 y2)) σ := by
  obtain ⟨a, ha, rfl⟩ := rz_i40 h1
  obtain ⟨b, hb, rfl⟩ := rz_i40 h2
  obtain ⟨c, hc, rfl⟩ := rz_i40 h3
  obtain ⟨d, hd, rfl⟩ := rz_i40 h4
  obtain ⟨n, hn, u1, u2⟩ := rz_under (a := a) (b := c) (c := b) (d := d) ha hc hb hd
  rw [rz_c_way σ hn u1]
  unfold rz_wyf
  rw [u1, nI_clamp (by omega)]
theorem rz_m_wyf {τ : ra_S} {p q : Nat} (hp : p < 8) (hq : q < 8) (h1 : rz_in (τ.1 93 (5 * p + 1)) 0 40) (h2 : rz_in (τ.1 93 (5 * p + 2)) 0 40) (h3 : rz_in (τ.1 93 (5 * q + 1)) 0 40) (h4 : rz_in (τ.1 93 (5 * q + 2)) 0 40) : ra_C 180 [.ref 86, .int (nI p), .int (nI q)] τ = ra_I (nI (rz_wyf (τ.1 93 (5 * p + 1)) (τ.1 93 (5 * p + 2)) (τ.1 93 (5 * q + 1)) (τ.1 93 (5 * q + 2)))) τ := by
  obtain ⟨a, ha, e1⟩ := rz_i40 h1
  obtain ⟨b, hb, e2⟩ := rz_i40 h2
  obtain ⟨c, hc, e3⟩ := rz_i40 h3
  obtain ⟨d, hd, e4⟩ := rz_i40 h4
  obtain ⟨n, hn, u1, u2⟩ := rz_under (a := a) (b := c) (c := b) (d := d) ha hc hb hd
  rw [rz_m_wayB hp hq e1 e2 e3 e4 hn u2]
  unfold rz_wyf
  rw [e1, e2, e3, e4, u1, nI_clamp (by omega)]
def rz_bit (x : Int32) (k : Nat) : Bool := decide ((x >>> (nI k &&& 31)) &&& (1 : Int32) = 1)
theorem rz_m_bit (σ : ra_S) (x : Int32) (k : Nat) : ra_C 142 [.int x, .int (nI k)] σ = ra_I (if rz_bit x k = true then 1 else 0) σ := by
  rw [e_142]
  unfold rz_bit
  by_cases h : (x >>> (nI k &&& 31)) &&& (1 : Int32) = 1
  · rw [if_pos h, if_pos (decide_eq_true h)]
  · rw [if_neg h, if_neg (by rw [decide_eq_true_iff]; exact h)]
-- ===== the reference's store and the entries' environment =====
/-- the sum of the wrongs of a player at a beat, n wrongs long -/
def rz_wsum (f : Nat → Nat × Nat × Int) (p b : Nat) : Nat → Int
  | 0 => 0
  | n + 1 => rz_wsum f p b n + (if (f n).1 = p ∧ (f n).2.1 = b then (f n).2.2 else 0)
def rz_ah (τ : ra_S) (p l : Nat) : Int := if τ.1 91 (6 * l + 5) = 1 then (τ.1 93 (5 * p + 3)).toInt else 0
/-- player p's cells -/
def rz_MP (E : rz_En) (np : Nat) (al : Bool) (τ : ra_S) (p : Nat) : Prop := ∃ l, l < 12 ∧ τ.1 93 (5 * p) = nI l ∧ (∀ j, j < 4 → rz_w E p j = if rz_bit (τ.1 101 p) j = true then 0 else if j = 0 ∧ al = true then 0 else (τ.1 91 (6 * l + j)).toInt) ∧ rz_hb E p = (τ.1 91 (6 * l + 4)).toInt - rz_ah τ p l ∧ rz_in (τ.1 91 (6 * l + 4)) (-500) 500 ∧ rz_in (τ.1 93 (5 * p + 3)) 0 300 ∧ rz_in (τ.1 93 (5 * p + 1)) 0 40 ∧ rz_in (τ.1 93 (5 * p + 2)) 0 40 ∧
  (∀ q, q < np → rz_dl E p q = (τ.1 93 (5 * q + 3)).toInt + (rz_wyf (τ.1 93 (5 * p + 1)) (τ.1 93 (5 * p + 2)) (τ.1 93 (5 * q + 1)) (τ.1 93 (5 * q + 2)) : Int) - rz_ah τ p l)
def rz_on (τ : ra_S) (q : Nat) : Bool := decide (τ.1 86 39 < 0) || decide (nI q = τ.1 86 39) || decide (nI q = τ.1 86 40)
theorem rz_m_on (τ : ra_S) (q : Nat) : ra_C 184 [.ref 86, .int (nI q)] τ = ra_I (if rz_on τ q = true then 1 else 0) τ := by
  rw [e_184]
  unfold rz_on
  by_cases h1 : τ.1 86 39 < 0
  · rw [if_pos h1, decide_eq_true h1]; rfl
  · rw [if_neg h1, decide_eq_false h1]
    by_cases h2 : nI q = τ.1 86 39
    · rw [if_pos h2, decide_eq_true h2]; rfl
    · rw [if_neg h2, decide_eq_false h2]
      by_cases h3 : nI q = τ.1 86 40
      · rw [if_pos h3, decide_eq_true h3]; rfl
      · rw [if_neg h3, decide_eq_false h3]; rfl
