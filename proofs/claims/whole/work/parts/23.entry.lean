-- ===== numbers of 64 bits as whole numbers =====
def rz_L (x : Int) : Int64 := Int64.ofInt x
theorem rz_L_add (a b : Int) : rz_L a + rz_L b = rz_L (a + b) := (Int64.ofInt_add a b).symm
theorem rz_L_sub (a b : Int) : rz_L a - rz_L b = rz_L (a - b) := (Int64.ofInt_sub a b).symm
theorem rz_L_mul (a b : Int) : rz_L a * rz_L b = rz_L (a * b) := (Int64.ofInt_mul a b).symm
theorem rz_L_neg (a : Int) : -rz_L a = rz_L (-a) := (Int64.ofInt_neg a).symm
theorem rz_L_i {x : Int} (h1 : -9223372036854775808 ≤ x) (h2 : x < 9223372036854775808) : (rz_L x).toInt = x := Int64.toInt_ofInt_of_le h1 h2
theorem rz_32L (x : Int32) : x.toInt64 = rz_L x.toInt := by
  rw [← Int64.toInt_inj, Int32.toInt_toInt64, rz_L_i (by have := Int32.le_toInt x; omega) (by have := Int32.toInt_lt x; omega)]
theorem rz_L_lt {a b : Int} (h1 : -9223372036854775808 ≤ a) (h2 : a < 9223372036854775808) (h3 : -9223372036854775808 ≤ b) (h4 : b < 9223372036854775808) : rz_L a < rz_L b ↔ a < b := by
  rw [Int64.lt_iff_toInt_lt, rz_L_i h1 h2, rz_L_i h3 h4]
theorem rz_L_eq {a b : Int} (h1 : -9223372036854775808 ≤ a) (h2 : a < 9223372036854775808) (h3 : -9223372036854775808 ≤ b) (h4 : b < 9223372036854775808) : rz_L a = rz_L b ↔ a = b := by
  rw [← Int64.toInt_inj, rz_L_i h1 h2, rz_L_i h3 h4]
theorem rz_lcn (x y : Int64) : lg_cmp x y < (0 : Int32) ↔ x < y := by
  unfold lg_cmp
  by_cases h : x > y
  · rw [if_pos h]; exact ⟨fun q => absurd q (by decide), fun q => absurd (Int64.lt_trans q h) (Int64.lt_irrefl)⟩
  · rw [if_neg h]
    by_cases h2 : x = y
    · rw [if_pos h2]; exact ⟨fun q => absurd q (by decide), fun q => by subst h2; exact absurd q h⟩
    · rw [if_neg h2]; exact ⟨fun _ => by
        rw [Int64.lt_iff_toInt_lt]
        have a : ¬ y.toInt < x.toInt := fun q => h (Int64.lt_iff_toInt_lt.mpr q)
        have b : ¬ x.toInt = y.toInt := fun q => h2 (Int64.toInt_inj.mp q)
        omega, fun _ => by decide⟩
theorem rz_lc0 (x y : Int64) : lg_cmp x y = (0 : Int32) ↔ x = y := by
  unfold lg_cmp
  by_cases h : x > y
  · rw [if_pos h]; exact ⟨fun q => absurd q (by decide), fun q => by subst q; exact absurd h Int64.lt_irrefl⟩
  · rw [if_neg h]
    by_cases h2 : x = y
    · rw [if_pos h2]; exact ⟨fun _ => h2, fun _ => rfl⟩
    · rw [if_neg h2]; exact ⟨fun q => absurd q (by decide), fun q => absurd q h2⟩
theorem rz_k1 : (1000000000 : Int64) = rz_L 1000000000 := by decide
theorem rz_k2 : (-1000000000 : Int64) = rz_L (-1000000000) := by decide
/-- the entry's bounds -/
def rz_cl (v : Int) : Int := if 1000000000 < v then 1000000000 else if v < -1000000000 then -1000000000 else v
theorem rz_cl_in (v : Int) : -1000000000 ≤ rz_cl v ∧ rz_cl v ≤ 1000000000 := by
  unfold rz_cl
  by_cases a : 1000000000 < v
  · rw [if_pos a]; omega
  · rw [if_neg a]
    by_cases b : v < -1000000000
    · rw [if_pos b]; omega
    · rw [if_neg b]; omega
theorem rz_m_cl (σ : ra_S) {v : Int} (h1 : -9223372036854775808 ≤ v) (h2 : v < 9223372036854775808) : ra_C 189 [.long (rz_L v)] σ = ra_I (Int32.ofInt (rz_cl v)) σ := by
  rw [e_189, rz_k2, rz_k1]
  unfold rz_cl
  by_cases a : 1000000000 < v
  · rw [if_pos ((rz_lc _ _).mpr ((rz_L_lt (a := 1000000000) (by omega) (by omega) h1 h2).mpr a)), if_pos a]; rfl
  · rw [if_neg (fun z => a ((rz_L_lt (a := 1000000000) (by omega) (by omega) h1 h2).mp ((rz_lc _ _).mp z))), if_neg a]
    by_cases b : v < -1000000000
    · rw [if_pos ((rz_lcn _ _).mpr ((rz_L_lt (b := -1000000000) h1 h2 (by omega) (by omega)).mpr b)), if_pos b]; rfl
    · rw [if_neg (fun z => b ((rz_L_lt (b := -1000000000) h1 h2 (by omega) (by omega)).mp ((rz_lcn _ _).mp z))), if_neg b]
      have : (rz_L v).toInt32 = Int32.ofInt v := by
        rw [← Int32.toInt_inj, Int64.toInt_toInt32, rz_L_i h1 h2, Int32.toInt_ofInt]
      rw [this]
theorem rz_c_min (σ : ra_S) {v : Int} (h1 : -9223372036854775808 ≤ v) (h2 : v < 9223372036854775808) : ra_C 252 [.long (1000000000 : Int64), .long (rz_L v)] σ = ra_J (rz_L (if 1000000000 < v then 1000000000 else v)) σ := by
  rw [e_252, rz_k1]
  by_cases a : 1000000000 < v
  · rw [if_neg (fun z => by have := (rz_L_lt (b := 1000000000) h1 h2 (by omega) (by omega)).mp ((rz_lc _ _).mp z); omega), if_pos a]
  · rw [if_neg a]
    by_cases c : v < 1000000000
    · rw [if_pos ((rz_lc _ _).mpr ((rz_L_lt (b := 1000000000) h1 h2 (by omega) (by omega)).mpr c))]
    · have : v = 1000000000 := by omega
      subst this
      rw [if_neg (fun z => by have := (rz_L_lt (b := 1000000000) h1 h2 (by omega) (by omega)).mp ((rz_lc _ _).mp z); omega)]
theorem rz_c_max (σ : ra_S) {v : Int} (h1 : -9223372036854775808 ≤ v) (h2 : v < 9223372036854775808) : ra_C 250 [.long (-1000000000 : Int64), .long (rz_L v)] σ = ra_J (rz_L (if v < -1000000000 then -1000000000 else v)) σ := by
  rw [e_250, rz_k2]
  by_cases a : v < -1000000000
  · rw [if_neg (fun z => by have := (rz_L_lt (a := -1000000000) (by omega) (by omega) h1 h2).mp ((rz_lcn _ _).mp z); omega), if_pos a]
  · rw [if_neg a]
    by_cases c : -1000000000 < v
    · rw [if_pos ((rz_lcn _ _).mpr ((rz_L_lt (a := -1000000000) (by omega) (by omega) h1 h2).mpr c))]
    · have : v = -1000000000 := by omega
      subst this
      rw [if_neg (fun z => by have := (rz_L_lt (a := -1000000000) (by omega) (by omega) h1 h2).mp ((rz_lcn _ _).mp z); omega)]

-- ===== division downwards =====
theorem rz_L0 {a : Int} (h1 : -9223372036854775808 ≤ a) (h2 : a < 9223372036854775808) : rz_L a < (0 : Int64) ↔ a < 0 := rz_L_lt (b := 0) h1 h2 (by omega) (by omega)
theorem rz_tdiv {a b : Int} (h1 : -4611686018427387904 ≤ a) (h2 : a < 4611686018427387904) (h3 : 0 < b) (h4 : b < 4611686018427387904) : rz_L a / rz_L b = rz_L (a.tdiv b) := by
  rw [← Int64.toInt_inj, Int64.toInt_div, rz_L_i (by omega) (by omega), rz_L_i (by omega) (by omega)]
  have g1 : (a.tdiv b).natAbs ≤ a.natAbs := by rw [Int.natAbs_tdiv]; exact Nat.div_le_self _ _
  rw [rz_L_i (by omega) (by omega)]
  exact Int.bmod_eq_of_le (by omega) (by omega)
theorem rz_m_div (σ : ra_S) {a b : Int} (h1 : -1000000000000000 ≤ a) (h2 : a ≤ 1000000000000000) (h3 : 0 < b) (h4 : b < 1000000) : ra_C 144 [.long (rz_L a), .long (rz_L b)] σ = ra_J (rz_L (a / b)) σ := by
  have nz : ¬ rz_L b = 0 := fun z => by
    have := (rz_L_eq (a := b) (b := 0) (by omega) (by omega) (by omega) (by omega)).mp z
    omega
  rw [e_144]
  by_cases c : a < 0
  · rw [if_pos ((rz_lcn _ _).mpr ((rz_L0 (a := a) (by omega) (by omega)).mpr c)), if_neg nz, show (1 : Int64) = rz_L 1 from rfl, rz_L_sub, rz_L_sub, rz_tdiv (by omega) (by omega) h3 (by omega), rz_L_neg]
    have e : -((b - 1 - a).tdiv b) = a / b := by
      rw [Int.tdiv_eq_ediv_of_nonneg (by omega)]
      have q1 := Int.emod_add_mul_ediv a b
      have q2 := Int.emod_nonneg a (show b ≠ 0 by omega)
      have q3 := Int.emod_lt_of_pos a h3
      have e1 : b - 1 - a = (b - 1 - a % b) + b * (-(a / b)) := by rw [Int.mul_neg]; omega
      rw [e1, Int.add_mul_ediv_left _ _ (by omega), Int.ediv_eq_zero_of_lt (by omega) (by omega)]
      omega
    rw [e]
  · rw [if_neg (fun z => c ((rz_L0 (a := a) (by omega) (by omega)).mp ((rz_lcn _ _).mp z))), if_neg nz, rz_tdiv (by omega) (by omega) h3 (by omega), Int.tdiv_eq_ediv_of_nonneg (by omega)]
theorem rz_xor_neg {a b : Int64} (hb : ¬ b < 0) : (a ^^^ b) < 0 ↔ a < 0 := by
  have n : ∀ x : Int64, x < 0 ↔ x.toBitVec.msb = true := fun x => by
    rw [Int64.lt_iff_toInt_lt, BitVec.msb_eq_toInt, decide_eq_true_iff]; rfl
  rw [n] at hb
  rw [n, n, Int64.toBitVec_xor, BitVec.msb_xor, Bool.eq_false_iff.mpr hb, Bool.xor_false]
theorem rz_c_div (σ : ra_S) {a b : Int} (h1 : -1000000000000000 ≤ a) (h2 : a ≤ 1000000000000000) (h3 : 0 < b) (h4 : b < 1000000) : ra_C 247 [.long (rz_L a), .long (rz_L b)] σ = ra_J (rz_L (a / b)) σ := by
  have nz : ¬ rz_L b = 0 := fun z => by
    have := (rz_L_eq (a := b) (b := 0) (by omega) (by omega) (by omega) (by omega)).mp z
    omega
  have nn : ¬ rz_L b < 0 := fun z => by
    have := (rz_L_lt (a := b) (b := 0) (by omega) (by omega) (by omega) (by omega)).mp z
    omega
  rw [e_247, if_neg nz, rz_tdiv (by omega) (by omega) h3 (by omega)]
  have q1 := Int.emod_add_mul_ediv a b
  have q2 := Int.emod_nonneg a (show b ≠ 0 by omega)
  have q3 := Int.emod_lt_of_pos a h3
  by_cases c : a < 0
  · rw [if_pos ((rz_lcn _ _).mpr ((rz_xor_neg nn).mpr ((rz_L0 (a := a) (by omega) (by omega)).mpr c))), rz_L_mul]
    have tq : a.tdiv b = -((-a) / b) := by
      rw [← Int.tdiv_eq_ediv_of_nonneg (a := -a) (by omega), Int.neg_tdiv, Int.neg_neg]
    have p1 := Int.emod_add_mul_ediv (-a) b
    have p2 := Int.emod_nonneg (-a) (show b ≠ 0 by omega)
    have p3 := Int.emod_lt_of_pos (-a) h3
    have p4 : (-a) / b ≤ -a := Int.ediv_le_self b (by omega)
    have p5 : 0 ≤ (-a) / b := Int.ediv_nonneg (by omega) (by omega)
    generalize hk : (-a) / b = k at *
    generalize hr : (-a) % b = r at *
    have e0 : -k * b = a + r := by rw [Int.neg_mul, Int.mul_comm]; omega
    rw [tq, e0]
    by_cases z : r = 0
    · subst z
      have e2 : a / b = -k := by
        rw [show a = b * (-k) by rw [Int.mul_neg]; omega, Int.mul_ediv_cancel_left _ (by omega)]
      rw [Int.add_zero, if_pos ((rz_lc0 _ _).mpr rfl), e2]
    · have e2 : a / b = -k - 1 := by
        have e1 : a = (b - r) + b * (-k - 1) := by rw [Int.mul_sub, Int.mul_neg]; omega
        rw [e1, Int.add_mul_ediv_left _ _ (by omega), Int.ediv_eq_zero_of_lt (by omega) (by omega)]
        omega
      rw [if_neg (fun y => by have := (rz_L_eq (by omega) (by omega) (by omega) (by omega)).mp ((rz_lc0 _ _).mp y); omega), show (1 : Int64) = rz_L 1 from rfl, rz_L_sub, e2]
  · rw [if_neg (fun z => c ((rz_L0 (a := a) (by omega) (by omega)).mp ((rz_xor_neg nn).mp ((rz_lcn _ _).mp z)))), Int.tdiv_eq_ediv_of_nonneg (by omega)]
