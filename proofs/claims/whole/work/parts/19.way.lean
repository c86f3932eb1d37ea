-- ===== the root, the way =====
def rz_rt (n r : Nat) : Prop := r * r ≤ n ∧ n < (r + 1) * (r + 1)
theorem rz_rt_uniq {n r t : Nat} (h : rz_rt n r) (h2 : rz_rt n t) : r = t := by
  rcases Nat.lt_trichotomy r t with q | q | q
  · have : (r + 1) * (r + 1) ≤ t * t := Nat.mul_le_mul q q
    have := h.2; have := h2.1; omega
  · exact q
  · have : (t + 1) * (t + 1) ≤ r * r := Nat.mul_le_mul q q
    have := h2.2; have := h.1; omega
theorem rz_lc (x y : Int64) : (0 : Int32) < lg_cmp x y ↔ y < x := by
  unfold lg_cmp
  by_cases h : x > y
  · rw [if_pos h]; exact ⟨fun _ => h, fun _ => by decide⟩
  · rw [if_neg h]
    by_cases h2 : x = y
    · rw [if_pos h2]; exact ⟨fun q => absurd q (by decide), fun q => absurd q h⟩
    · rw [if_neg h2]; exact ⟨fun q => absurd q (by decide), fun q => absurd q h⟩
theorem rz_c_root (σ : ra_S) (n : Nat) (hn : n < 65536) : ∀ (k : Nat), k ≤ 8 → ∀ r, r * r ≤ n → n < (r + 2 ^ k) * (r + 2 ^ k) → r + 2 ^ k ≤ 256 → ∀ o0 o1, ∃ r', rz_rt n r' ∧ r' < 256 ∧ ra_D (ra_lay, none, 99999, ra_m138) 18 [o0, o1, some (.int (nI n)), some (.int (nI r)), some (.int (nI (2 ^ k / 2)))] [] σ = ra_I (nI r') σ := by
  intro k
  induction k with
  | zero =>
    intro _ r h1 h2 h3 o0 o1
    exact ⟨r, ⟨h1, h2⟩, by omega, by rw [e_138_18, if_neg (by decide)]⟩
  | succ k ih =>
    intro hk r h1 h2 h3 o0 o1
    have e : 2 ^ (k + 1) / 2 = 2 ^ k := by rw [Nat.pow_succ]; omega
    have e2 : 2 ^ (k + 1) = 2 ^ k + 2 ^ k := by rw [Nat.pow_succ]; omega
    have hp : 0 < 2 ^ k := Nat.two_pow_pos k
    have hk2 : r + 2 ^ k ≤ 256 := by omega
    have hsq : (r + 2 ^ k) * (r + 2 ^ k) ≤ 256 * 256 := Nat.mul_le_mul hk2 hk2
    rw [e]
    have d : nI (2 ^ k) / (2 : Int32) = nI (2 ^ k / 2) := pk_div (a := 2 ^ k) (d := 2) (by omega) (by omega) (by omega)
    by_cases hc : n < (r + 2 ^ k) * (r + 2 ^ k)
    · obtain ⟨r', g1, g2, g3⟩ := ih (by omega) r h1 hc hk2 o0 o1
      refine ⟨r', g1, g2, ?_⟩
      rw [e_138_18, if_pos (show (0 : Int32) < nI (2 ^ k) from nI_lt (a := 0) hp (by omega)), nI_add, pk_mul, if_pos (nI_lt hc (by omega)), d]
      exact g3
    · obtain ⟨r', g1, g2, g3⟩ := ih (by omega) (r + 2 ^ k) (Nat.le_of_not_lt hc) (by rw [Nat.add_assoc, ← e2]; exact h2) (by omega) o0 o1
      refine ⟨r', g1, g2, ?_⟩
      rw [e_138_18, if_pos (show (0 : Int32) < nI (2 ^ k) from nI_lt (a := 0) hp (by omega)), nI_add, pk_mul, if_neg (nI_nlt (Nat.le_of_not_lt hc) (by omega)), d]
      exact g3
theorem rz_orN (q k : Nat) : lN (2 ^ (k + 1) * q) ||| lN (2 ^ k) = lN (2 ^ (k + 1) * q + 2 ^ k) := by
  rw [Nat.two_pow_add_eq_or_of_lt (Nat.pow_lt_pow_right (by omega) (by omega))]
  apply Int64.toBitVec.inj
  show BitVec.ofNat 64 _ ||| BitVec.ofNat 64 _ = BitVec.ofNat 64 _
  exact BitVec.ofNat_or.symm
theorem rz_shr : ∀ k : Fin 21, lN (2 ^ k.val) >>> ((1 : Int32).toInt64 &&& 63) = lN (2 ^ k.val / 2) := by decide +kernel
theorem rz_m_root (σ : ra_S) (n : Nat) (hn : n < 65536) : ∀ (k : Nat), k ≤ 21 → ∀ q, (2 ^ k * q) * (2 ^ k * q) ≤ n → n < (2 ^ k * q + 2 ^ k) * (2 ^ k * q + 2 ^ k) → 2 ^ k * q + 2 ^ k ≤ 2 ^ 21 → ∀ o6 o7, ∃ r', rz_rt n r' ∧ ra_D (ra_lay, none, 99999, ra_m178) 7 [some (.long (lN n)), none, some (.long (lN (2 ^ k * q))), none, some (.long (lN (2 ^ k / 2))), none, o6, o7] [] σ = ra_J (lN r') σ := by
  intro k
  induction k with
  | zero =>
    intro _ q h1 h2 h3 o6 o7
    refine ⟨2 ^ 0 * q, ⟨h1, h2⟩, ?_⟩
    rw [e_178_7, if_neg]
    rw [rz_lc]
    decide
  | succ k ih =>
    intro hk q h1 h2 h3 o6 o7
    have e : 2 ^ (k + 1) / 2 = 2 ^ k := by rw [Nat.pow_succ]; omega
    have e2 : 2 ^ (k + 1) = 2 ^ k + 2 ^ k := by rw [Nat.pow_succ]; omega
    have hp : 0 < 2 ^ k := Nat.two_pow_pos k
    have hq : 2 ^ (k + 1) * q = 2 ^ k * (2 * q) := by rw [Nat.pow_succ, Nat.mul_assoc]
    have hq2 : 2 ^ (k + 1) * q + 2 ^ k = 2 ^ k * (2 * q + 1) := by rw [Nat.mul_add, ← hq, Nat.mul_one]
    have hle : 2 ^ (k + 1) * q + 2 ^ k ≤ 2 ^ 21 := by omega
    have hsq : (2 ^ (k + 1) * q + 2 ^ k) * (2 ^ (k + 1) * q + 2 ^ k) ≤ 2 ^ 21 * 2 ^ 21 := Nat.mul_le_mul hle hle
    have sh := rz_shr ⟨k, by omega⟩
    dsimp only at sh
    have c0 : (0 : Int32) < lg_cmp (lN (2 ^ k)) (0 : Int64) := (rz_lc _ _).mpr ((pk_lLT (a := 0) (b := 2 ^ k) (by omega) (by omega)).mpr hp)
    rw [e]
    by_cases hc : n < (2 ^ (k + 1) * q + 2 ^ k) * (2 ^ (k + 1) * q + 2 ^ k)
    · obtain ⟨r', g1, g3⟩ := ih (by omega) (2 * q) (by rw [← hq]; exact h1) (by rw [← hq]; exact hc) (by rw [← hq]; exact hle) (some (.long (lN (2 ^ (k + 1) * q + 2 ^ k)))) none
      refine ⟨r', g1, ?_⟩
      rw [e_178_7, if_pos c0, rz_orN, lN_mul, if_pos ((rz_lc _ _).mpr ((pk_lLT (by omega) (by omega)).mpr hc)), sh, hq]
      rw [hq] at g3
      exact g3
    · obtain ⟨r', g1, g3⟩ := ih (by omega) (2 * q + 1) (by rw [← hq2]; exact Nat.le_of_not_lt hc) (by rw [← hq2, Nat.add_assoc, ← e2]; exact h2) (by rw [← hq2]; omega) (some (.long (lN (2 ^ (k + 1) * q + 2 ^ k)))) none
      refine ⟨r', g1, ?_⟩
      rw [e_178_7, if_pos c0, rz_orN, lN_mul, if_neg (fun z => hc ((pk_lLT (by omega) (by omega)).mp ((rz_lc _ _).mp z))), sh, hq2]
      rw [hq2] at g3
      exact g3
/-- the way of two places, dx and dy apart -/
theorem rz_isqrt (n : Nat) : ∃ r, rz_rt n r := by
  induction n with
  | zero => exact ⟨0, by decide, by decide⟩
  | succ n ih =>
    obtain ⟨r, h1, h2⟩ := ih
    by_cases h : n + 1 < (r + 1) * (r + 1)
    · exact ⟨r, by omega, h⟩
    · refine ⟨r + 1, by omega, ?_⟩
      have e1 : (r + 1 + 1) * (r + 1 + 1) = (r + 1) * (r + 1) + 2 * (r + 1) + 1 := by rw [Nat.mul_add, Nat.add_mul]; omega
      omega
noncomputable def rz_sq (n : Nat) : Nat := Classical.choose (rz_isqrt n)
theorem rz_sq_rt (n : Nat) : rz_rt n (rz_sq n) := Classical.choose_spec (rz_isqrt n)
theorem rz_sq_lt {n : Nat} (h : n < 65536) : rz_sq n < 256 := by
  have h1 := (rz_sq_rt n).1
  rcases Nat.lt_or_ge (rz_sq n) 256 with q | q
  · exact q
  · have : 256 * 256 ≤ rz_sq n * rz_sq n := Nat.mul_le_mul q q
    omega
theorem rz_c_way (σ : ra_S) {x y : Int32} {n : Nat} (hn : n < 65536) (h : (9 : Int32) * (x * x + y * y) = nI n) : ra_C 138 [.int x, .int y] σ = ra_I (nI (rz_sq n)) σ := by
  obtain ⟨r, h1, h2, h3⟩ := rz_c_root σ n hn 8 (by omega) 0 (by omega) (by omega) (by omega) (some (.int x)) (some (.int y))
  rw [e_138, h]
  rw [rz_rt_uniq h1 (rz_sq_rt n)] at h3
  exact h3
theorem rz_m_wayOf (σ : ra_S) {x y x2 y2 : Int32} {n : Nat} (hn : n < 65536) (h : (9 : Int64) * ((x - x2) * (x - x2) + (y - y2) * (y - y2)).toInt64 = lN n) : ra_C 179 [.int x, .int y, .int x2, .int y2] σ = ra_I (nI (rz_sq n)) σ := by
  obtain ⟨r, h1, h3⟩ := rz_m_root σ n hn 21 (by omega) 0 (by omega) (by omega) (by omega) none none
  rw [e_179, h, e_178]
  rw [rz_rt_uniq h1 (rz_sq_rt n)] at h3
  have h4 : ra_D (ra_lay, none, 99999, ra_m178) 7 [some (.long (lN n)), none, some (.long (0 : Int64)), none, some (.long (1048576 : Int64)), none, none, none] [] σ = ra_J (lN (rz_sq n)) σ := h3
  rw [h4, ra_kJ, lN_i]
/-- places of the stage and of the hall: the number under the root, on both sides -/
theorem rz_under {a b c d : Nat} (ha : a ≤ 40) (hb : b ≤ 40) (hc : c ≤ 40) (hd : d ≤ 40) : ∃ n : Nat, n < 65536 ∧ (9 : Int32) * ((nI a - nI b) * (nI a - nI b) + (nI c - nI d) * (nI c - nI d)) = nI n ∧ (9 : Int64) * ((nI a - nI b) * (nI a - nI b) + (nI c - nI d) * (nI c - nI d)).toInt64 = lN n := by
  have key : ∀ a b : Nat, a ≤ 40 → b ≤ 40 → ∃ d : Nat, d ≤ 40 ∧ (nI a - nI b) * (nI a - nI b) = nI (d * d) := by
    intro a b ha hb
    rcases Nat.le_total b a with q | q
    · exact ⟨a - b, by omega, by rw [pk_sub q, pk_mul]⟩
    · refine ⟨b - a, by omega, ?_⟩
      have e : nI a - nI b = -(nI b - nI a) := by rw [Int32.neg_sub]
      rw [e, Int32.neg_mul_neg, pk_sub q, pk_mul]
  obtain ⟨u, hu, eu⟩ := key a b ha hb
  obtain ⟨v, hv, ev⟩ := key c d hc hd
  have hu2 : u * u ≤ 40 * 40 := Nat.mul_le_mul hu hu
  have hv2 : v * v ≤ 40 * 40 := Nat.mul_le_mul hv hv
  refine ⟨9 * (u * u + v * v), by omega, ?_, ?_⟩
  · rw [eu, ev, nI_add]; exact pk_mul 9 _
  · rw [eu, ev, nI_add, nI_l (by omega)]; exact lN_mul 9 _
