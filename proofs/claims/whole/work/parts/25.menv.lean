-- ===== ways and bits for the entries =====
noncomputable def rz_wyf (x y x2 y2 : Int32) : Nat := rz_sq ((9 : Int32) * ((x - x2) * (x - x2) + (y - y2) * (y - y2))).toNatClampNeg
theorem rz_i40 {x : Int32} (h : rz_in x 0 40) : ∃ a : Nat, a ≤ 40 ∧ x = nI a := by
  obtain ⟨h1, h2⟩ := h
  refine ⟨x.toInt.toNat, by omega, ?_⟩
  rw [← Int32.toInt_inj, nI_toInt (by omega)]
  omega
theorem rz_c_wyf (σ : ra_S) {x y x2 y2 : Int32} (h1 : rz_in x 0 40) (h2 : rz_in y 0 40) (h3 : rz_in x2 0 40) (h4 : rz_in y2 0 40) : ra_C 138 [.int (x - x2), .int (y - y2)] σ = ra_I (nI (rz_wyf x y x2 y2)) σ := by
  obtain ⟨a, ha, rfl⟩ := rz_i40 h1
  obtain ⟨b, hb, rfl⟩ := rz_i40 h2
  obtain ⟨c, hc, rfl⟩ := rz_i40 h3
  obtain ⟨d, hd, rfl⟩ := rz_i40 h4
  obtain ⟨n, hn, u1, u2⟩ := rz_under (a := a) (b := c) (c := b) (d := d) ha hc hb hd
  rw [rz_c_way σ hn u1]
  unfold rz_wyf
  rw [u1, nI_clamp (by omega)]
theorem rz_m_wyf {τ : ra_S} {p q : Nat} (hp : p < 8) (hq : q < 8) (h1 : rz_in (τ.1 93 (5 * p + 1)) 0 40) (h2 : rz_in (τ.1 93 (5 * p + 2)) 0 40) (h3 : rz_in (τ.1 93 (5 * q + 1)) 0 40) (h4 : rz_in (τ.1 93 (5 * q + 2)) 0 40) : ra_C 180 [.ref 86, .int (nI p), .int (nI q)] τ = ra_I (nI (rz_wyf (τ.1 93 (5 * p + 1)) (τ.1 93 (5 * p + 2)) (τ.1 93 (5 * q + 1)) (τ.1 93 (5 * q + 2)))) τ := by
  obtain ⟨a, ha, e1⟩ := rz_i40 h1
  obtain ⟨b, hb, e2⟩ := rz_i40 h2
  obtain ⟨c, hc, e3⟩ := rz_i40 h3
  obtain ⟨d, hd, e4⟩ := rz_i40 h4
  obtain ⟨n, hn, u1, u2⟩ := rz_under (a := a) (b := c) (c := b) (d := d) ha hc hb hd
  rw [rz_m_wayB hp hq e1 e2 e3 e4 hn u2]
  unfold rz_wyf
  rw [e1, e2, e3, e4, u1, nI_clamp (by omega)]
def rz_bit (x : Int32) (k : Nat) : Bool := decide ((x >>> (nI k &&& 31)) &&& (1 : Int32) = 1)
theorem rz_m_bit (σ : ra_S) (x : Int32) (k : Nat) : ra_C 142 [.int x, .int (nI k)] σ = ra_I (if rz_bit x k = true then 1 else 0) σ := by
  rw [e_142]
  unfold rz_bit
  by_cases h : (x >>> (nI k &&& 31)) &&& (1 : Int32) = 1
  · rw [if_pos h, if_pos (decide_eq_true h)]
  · rw [if_neg h, if_neg (by rw [decide_eq_true_iff]; exact h)]
-- ===== the reference's store and the entries' environment =====
/-- the sum of the wrongs of a player at a beat, n wrongs long -/
def rz_wsum (f : Nat → Nat × Nat × Int) (p b : Nat) : Nat → Int
  | 0 => 0
  | n + 1 => rz_wsum f p b n + (if (f n).1 = p ∧ (f n).2.1 = b then (f n).2.2 else 0)
def rz_ah (τ : ra_S) (p l : Nat) : Int := if τ.1 91 (6 * l + 5) = 1 then (τ.1 93 (5 * p + 3)).toInt else 0
/-- player p's cells -/
def rz_MP (E : rz_En) (np : Nat) (al : Bool) (τ : ra_S) (p : Nat) : Prop := ∃ l, l < 12 ∧ τ.1 93 (5 * p) = nI l ∧ (∀ j, j < 4 → rz_w E p j = if rz_bit (τ.1 101 p) j = true then 0 else if j = 0 ∧ al = true then 0 else (τ.1 91 (6 * l + j)).toInt) ∧ rz_hb E p = (τ.1 91 (6 * l + 4)).toInt - rz_ah τ p l ∧ rz_in (τ.1 91 (6 * l + 4)) (-500) 500 ∧ rz_in (τ.1 93 (5 * p + 3)) 0 300 ∧ rz_in (τ.1 93 (5 * p + 1)) 0 40 ∧ rz_in (τ.1 93 (5 * p + 2)) 0 40 ∧
  (∀ q, q < np → rz_dl E p q = (τ.1 93 (5 * q + 3)).toInt + (rz_wyf (τ.1 93 (5 * p + 1)) (τ.1 93 (5 * p + 2)) (τ.1 93 (5 * q + 1)) (τ.1 93 (5 * q + 2)) : Int) - rz_ah τ p l)
def rz_on (τ : ra_S) (q : Nat) : Bool := decide (τ.1 86 39 < 0) || decide (nI q = τ.1 86 39) || decide (nI q = τ.1 86 40)
theorem rz_m_on (τ : ra_S) (q : Nat) : ra_C 184 [.ref 86, .int (nI q)] τ = ra_I (if rz_on τ q = true then 1 else 0) τ := by
  rw [e_184]
  unfold rz_on
  by_cases h1 : τ.1 86 39 < 0
  · rw [if_pos h1, decide_eq_true h1]; rfl
  · rw [if_neg h1, decide_eq_false h1]
    by_cases h2 : nI q = τ.1 86 39
    · rw [if_pos h2, decide_eq_true h2]; rfl
    · rw [if_neg h2, decide_eq_false h2]
      by_cases h3 : nI q = τ.1 86 40
      · rw [if_pos h3, decide_eq_true h3]; rfl
      · rw [if_neg h3, decide_eq_false h3]; rfl
theorem rz_six (l k : Nat) : (6 : Int32) * nI l + nI k = nI (6 * l + k) := by
  rw [show (6 : Int32) * nI l = nI (6 * l) from pk_mul 6 l, nI_add]
theorem rz_ofI (x : Int32) : Int32.ofInt x.toInt = x := Int32.ofInt_toInt x
theorem rz_ofS (a : Int) (x y : Int32) : Int32.ofInt (a + (x.toInt - y.toInt)) = Int32.ofInt a + x - y := by
  rw [← Int.add_sub_assoc, Int32.ofInt_sub, Int32.ofInt_add, rz_ofI, rz_ofI]
theorem rz_m_w {E : rz_En} {np p j : Nat} {al : Bool} {τ : ra_S} (h : rz_MP E np al τ p) (hal : al = true ↔ ¬ τ.1 86 39 < 0) (hp : p < 8) (hj : j < 4) : ra_C 185 [.ref 86, .int (nI p), .int (nI j)] τ = ra_I (Int32.ofInt (rz_w E p j)) τ := by
  obtain ⟨l, hl, e1, e2, -⟩ := h
  have e26 : ra_D (ra_lay, none, 99999, ra_m185) 26 [some (.ref 86), some (.int (nI p)), some (.int (nI j))] [] τ = ra_I (τ.1 91 (6 * l + j)) τ := by
    rw [e_185_26, show (5 : Int32) * nI p = nI (5 * p) from pk_mul 5 p, if_pos (rz_gd (N := 80) (by omega) (by omega)), nI_clamp (by omega), e1, rz_six, if_pos (rz_gd (N := 72) (by omega) (by omega)), nI_clamp (by omega)]
  rw [e_185, if_pos (rz_gd (N := 8) (by omega) (by omega)), nI_clamp (by omega), rz_m_bit, ra_kI, e2 j hj]
  by_cases b : rz_bit (τ.1 101 p) j = true
  · rw [if_pos b, if_neg (by decide), if_pos b]; rfl
  · rw [if_neg b, if_pos rfl, if_neg b]
    by_cases z : j = 0
    · subst z
      rw [if_pos (show nI 0 = (0 : Int32) from rfl)]
      by_cases c : τ.1 86 39 < 0
      · rw [if_pos c, if_neg (fun y => (hal.mp y.2) c), e26, rz_ofI]
      · rw [if_neg c, if_pos ⟨rfl, hal.mpr c⟩]; rfl
    · rw [if_neg (fun y => z (by have := congrArg Int32.toInt y; rw [nI_toInt (by omega)] at this; exact Int.ofNat_eq_zero.mp this)), if_neg (fun y => z y.1), e26, rz_ofI]
/-- the habit's own time -/
theorem rz_m_own {E : rz_En} {np p b nb : Nat} {al : Bool} {τ : ra_S} {len : Nat → Nat} (h : rz_MP E np al τ p) (hp : p < 8) (hlen : ∀ k, k < nb → τ.1 89 k = nI (len k)) (hb : b ≤ nb) (hnb : nb ≤ 40) (hs : rz_sum len b ≤ 10000000) : ra_C 186 [.ref 86, .int (nI p), .int (nI b)] τ = ra_I (Int32.ofInt ((rz_sum len b : Int) + rz_hb E p)) τ := by
  obtain ⟨l, hl, e1, -, e3, e4, e5, -⟩ := h
  have q : nI (rz_sum len b) = Int32.ofInt (rz_sum len b : Int) := rfl
  rw [e_186, show (5 : Int32) * nI p = nI (5 * p) from pk_mul 5 p, if_pos (rz_gd (N := 80) (by omega) (by omega)), nI_clamp (by omega), e1, rz_beginOf hlen hb hnb, ra_kI, show (6 : Int32) * nI l + (4 : Int32) = nI (6 * l + 4) from rz_six l 4, show (6 : Int32) * nI l + (5 : Int32) = nI (6 * l + 5) from rz_six l 5, if_pos (rz_gd (N := 72) (by omega) (by omega)), if_pos (rz_gd (N := 72) (by omega) (by omega)), nI_clamp (by omega), nI_clamp (by omega), e3]
  unfold rz_ah
  by_cases c : τ.1 91 (6 * l + 5) = 1
  · rw [if_pos c, if_pos c, show nI (5 * p) + (3 : Int32) = nI (5 * p + 3) from nI_add _ 3, if_pos (rz_gd (N := 80) (by omega) (by omega)), nI_clamp (by omega), rz_ofS, q]
  · rw [if_neg c, if_neg c, show (0 : Int) = (0 : Int32).toInt from rfl, rz_ofS, q]
theorem rz_oL {x : Int} (h : -1000000000 ≤ x ∧ x ≤ 1000000000) : (Int32.ofInt x).toInt64 = rz_L x := by
  rw [rz_32L, Int32.toInt_ofInt_of_le (by omega) (by omega)]
theorem rz_m_tempo {E : rz_En} {np nb b p q : Nat} {τ : ra_S} {len : Nat → Nat} (hlen : ∀ k, k < nb → τ.1 89 k = nI (len k)) (hb1 : 1 ≤ b) (hb : b < nb) (hnb : nb ≤ 40) (hs : rz_sum len 1 ≤ 10000000) (hbg : rz_bg E 1 = (rz_sum len 1 : Int)) {r1 r2 : Nat → Int} (i1 : ∀ q, -1000000000 ≤ r1 q ∧ r1 q ≤ 1000000000) (i2 : ∀ q, -1000000000 ≤ r2 q ∧ r2 q ≤ 1000000000) (h1p : τ.1 102 (8 * (b - 1) + p) = Int32.ofInt (r1 p)) (h1q : τ.1 102 (8 * (b - 1) + q) = Int32.ofInt (r1 q)) (h2 : b ≠ 1 → τ.1 102 (8 * (b - 2) + p) = Int32.ofInt (r2 p)) (hp : p < 8) (hq : q < 8) : ra_C 187 [.ref 86, .int (nI p), .int (nI q), .int (nI b)] τ = ra_J (rz_L (r1 q + rz_gap E b r1 r2 p)) τ := by
  have s1 : nI b - (1 : Int32) = nI (b - 1) := pk_sub (a := b) (b := 1) hb1
  have m8 : ∀ c k : Nat, (8 : Int32) * nI c + nI k = nI (8 * c + k) := fun c k => by
    rw [show (8 : Int32) * nI c = nI (8 * c) from pk_mul 8 c, nI_add]
  have e43 : ∀ g : Int, ra_D (ra_lay, none, 99999, ra_m187) 43 [some (.ref 86), some (.int (nI p)), some (.int (nI q)), some (.int (nI b)), none, none] [.long (rz_L g)] τ = ra_J (rz_L (r1 q + g)) τ := fun g => by
    rw [e_187_43, s1, m8, if_pos (rz_gd (N := 320) (by omega) (by omega)), nI_clamp (by omega), h1q, rz_oL (i1 q), rz_L_add]
  rw [e_187]
  unfold rz_gap
  by_cases z : b = 1
  · subst z
    rw [if_pos (show nI 1 = (1 : Int32) from rfl), show (1 : Int32) = nI 1 from rfl, rz_beginOf hlen (by omega) hnb, ra_kI, if_pos rfl, hbg, ← e43, show (nI (rz_sum len 1)).toInt64 = rz_L (rz_sum len 1 : Int) by rw [rz_32L, nI_toInt (by omega)]]
  · have s2 : nI b - (2 : Int32) = nI (b - 2) := pk_sub (a := b) (b := 2) (by omega)
    rw [if_neg (fun y => z (by have := congrArg Int32.toInt y; rw [nI_toInt (by omega)] at this; exact Int.ofNat.inj this)), s1, s2, m8, m8, if_pos (rz_gd (N := 320) (by omega) (by omega)), if_pos (rz_gd (N := 320) (by omega) (by omega)), nI_clamp (by omega), nI_clamp (by omega), h1p, h2 z, rz_oL (i1 p), rz_oL (i2 p), rz_L_sub, e43, if_neg z]
