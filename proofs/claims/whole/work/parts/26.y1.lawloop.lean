-- ===== the law's loop; written by wip/whole/gen41.py =====
theorem rz_exit (L : Nat) (xs : Nat → Int32) (hL : L ≤ 3072) {i : Nat} (hi : ¬ i + 6 ≤ L) (hi2 : i ≤ 4000) (o5 o6 : Option Value) (σ : ra_S) : ra_D (ra_lay, some (L, xs), 1734, ra_m253) 23 (rz_lo i o5 o6) [] σ = some (.inl (some (.int 1)), σ) := by
  rw [e_253L_23, if_pos]
  rw [Int32.lt_iff_toInt_lt]
  show (nI L - nI 6).toInt < _
  rw [pk_sub_toInt (by omega) (by omega), nI_toInt (by omega)]
  omega
set_option maxHeartbeats 2000000 in
theorem rz_turnU (L : Nat) (xs : Nat → Int32) (hL : L ≤ 3072) {i : Nat} (hi : i + 6 ≤ L) (σ : ra_S) (hR : rz_R σ) (H : ∀ j, rz_op j) (h1 : ¬ (xs i &&& (63 : Int32)) = 1) (h4 : ¬ (xs i &&& (63 : Int32)) = 4) : ∃ σ2, rz_R σ2 ∧ ∀ o5 o6, ra_D (ra_lay, some (L, xs), 1734, ra_m253) 23 (rz_lo i o5 o6) [] σ = some (.inr (rz_lo i o5 o6, []), σ2) := by
  have g0 : ¬ (Int32.ofNat L - (6 : Int32)) < nI i := by
    rw [Int32.lt_iff_toInt_lt]
    show ¬ (nI L - nI 6).toInt < _
    rw [pk_sub_toInt (by omega) (by omega), nI_toInt (by omega)]
    omega
  have g1 : 0 ≤ (nI i).toInt ∧ (nI i).toInt < (L : Int) := by rw [nI_toInt (by omega)]; omega
  simp only [e_253L_23, if_neg g0, if_pos g1, nI_clamp (show i < 2 ^ 31 by omega)]
  by_cases q0 : (xs i &&& (63 : Int32)) = 0
  · simp only [if_pos q0]; exact rz_case0 L xs hL hi σ hR (H 0)
  simp only [if_neg q0]
  simp only [if_neg h1]
  by_cases q2 : (xs i &&& (63 : Int32)) = 2
  · simp only [if_pos q2]; exact rz_case2 L xs hL hi σ hR (H 2)
  simp only [if_neg q2]
  by_cases q3 : (xs i &&& (63 : Int32)) = 3
  · simp only [if_pos q3]; exact rz_case3 L xs hL hi σ hR (H 3)
  simp only [if_neg q3]
  simp only [if_neg h4]
  by_cases q5 : (xs i &&& (63 : Int32)) = 5
  · simp only [if_pos q5]; exact rz_case5 L xs hL hi σ hR (H 5)
  simp only [if_neg q5]
  by_cases q6 : (xs i &&& (63 : Int32)) = 6
  · simp only [if_pos q6]; exact rz_case6 L xs hL hi σ hR (H 6)
  simp only [if_neg q6]
  by_cases q7 : (xs i &&& (63 : Int32)) = 7
  · simp only [if_pos q7]; exact rz_case7 L xs hL hi σ hR (H 7)
  simp only [if_neg q7]
  by_cases q8 : (xs i &&& (63 : Int32)) = 8
  · simp only [if_pos q8]; exact rz_case8 L xs hL hi σ hR (H 8)
  simp only [if_neg q8]
  by_cases q9 : (xs i &&& (63 : Int32)) = 9
  · simp only [if_pos q9]; exact rz_case9 L xs hL hi σ hR (H 9)
  simp only [if_neg q9]
  by_cases q10 : (xs i &&& (63 : Int32)) = 10
  · simp only [if_pos q10]; exact rz_case10 L xs hL hi σ hR (H 10)
  simp only [if_neg q10]
  by_cases q11 : (xs i &&& (63 : Int32)) = 11
  · simp only [if_pos q11]; exact rz_case11 L xs hL hi σ hR (H 11)
  simp only [if_neg q11]
  by_cases q12 : (xs i &&& (63 : Int32)) = 12
  · simp only [if_pos q12]; exact rz_case12 L xs hL hi σ hR (H 12)
  simp only [if_neg q12]
  by_cases q13 : (xs i &&& (63 : Int32)) = 13
  · simp only [if_pos q13]; exact rz_case13 L xs hL hi σ hR (H 13)
  simp only [if_neg q13]
  by_cases q14 : (xs i &&& (63 : Int32)) = 14
  · simp only [if_pos q14]; exact rz_case14 L xs hL hi σ hR (H 14)
  simp only [if_neg q14]
  by_cases q15 : (xs i &&& (63 : Int32)) = 15
  · simp only [if_pos q15]; exact rz_case15 L xs hL hi σ hR (H 15)
  simp only [if_neg q15]
  by_cases q16 : (xs i &&& (63 : Int32)) = 16
  · simp only [if_pos q16]; exact rz_case16 L xs hL hi σ hR (H 16)
  simp only [if_neg q16]
  by_cases q17 : (xs i &&& (63 : Int32)) = 17
  · simp only [if_pos q17]; exact rz_case17 L xs hL hi σ hR (H 17)
  simp only [if_neg q17]
  by_cases q18 : (xs i &&& (63 : Int32)) = 18
  · simp only [if_pos q18]; exact rz_case18 L xs hL hi σ hR (H 18)
  simp only [if_neg q18]
  by_cases q19 : (xs i &&& (63 : Int32)) = 19
  · simp only [if_pos q19]; exact rz_case19 L xs hL hi σ hR (H 19)
  simp only [if_neg q19]
  by_cases q20 : (xs i &&& (63 : Int32)) = 20
  · simp only [if_pos q20]; exact rz_case20 L xs hL hi σ hR (H 20)
  simp only [if_neg q20]
  by_cases q21 : (xs i &&& (63 : Int32)) = 21
  · simp only [if_pos q21]; exact rz_case21 L xs hL hi σ hR (H 21)
  simp only [if_neg q21]
  by_cases q22 : (xs i &&& (63 : Int32)) = 22
  · simp only [if_pos q22]; exact rz_case22 L xs hL hi σ hR (H 22)
  simp only [if_neg q22]
  by_cases q23 : (xs i &&& (63 : Int32)) = 23
  · simp only [if_pos q23]; exact rz_case23 L xs hL hi σ hR (H 23)
  simp only [if_neg q23]
  by_cases q24 : (xs i &&& (63 : Int32)) = 24
  · simp only [if_pos q24]; exact rz_case24 L xs hL hi σ hR (H 24)
  simp only [if_neg q24]
  by_cases q25 : (xs i &&& (63 : Int32)) = 25
  · simp only [if_pos q25]; exact rz_case25 L xs hL hi σ hR (H 25)
  simp only [if_neg q25]
  by_cases q26 : (xs i &&& (63 : Int32)) = 26
  · simp only [if_pos q26]; exact rz_case26 L xs hL hi σ hR (H 26)
  simp only [if_neg q26]
  by_cases q27 : (xs i &&& (63 : Int32)) = 27
  · simp only [if_pos q27]; exact rz_case27 L xs hL hi σ hR (H 27)
  simp only [if_neg q27]
  by_cases q28 : (xs i &&& (63 : Int32)) = 28
  · simp only [if_pos q28]; exact rz_case28 L xs hL hi σ hR (H 28)
  simp only [if_neg q28]
  by_cases q29 : (xs i &&& (63 : Int32)) = 29
  · simp only [if_pos q29]; exact rz_case29 L xs hL hi σ hR (H 29)
  simp only [if_neg q29]
  by_cases q30 : (xs i &&& (63 : Int32)) = 30
  · simp only [if_pos q30]; exact rz_case30 L xs hL hi σ hR (H 30)
  simp only [if_neg q30]
  by_cases q31 : (xs i &&& (63 : Int32)) = 31
  · simp only [if_pos q31]; exact rz_case31 L xs hL hi σ hR (H 31)
  simp only [if_neg q31]
  by_cases q32 : (xs i &&& (63 : Int32)) = 32
  · simp only [if_pos q32]; exact rz_case32 L xs hL hi σ hR (H 32)
  simp only [if_neg q32]
  by_cases q33 : (xs i &&& (63 : Int32)) = 33
  · simp only [if_pos q33]; exact rz_case33 L xs hL hi σ hR (H 33)
  simp only [if_neg q33]
  by_cases q34 : (xs i &&& (63 : Int32)) = 34
  · simp only [if_pos q34]; exact rz_case34 L xs hL hi σ hR (H 34)
  simp only [if_neg q34]
  by_cases q35 : (xs i &&& (63 : Int32)) = 35
  · simp only [if_pos q35]; exact rz_case35 L xs hL hi σ hR (H 35)
  simp only [if_neg q35]
  exact ⟨σ, hR, fun _ _ => rfl⟩
theorem rz_turn1 (L : Nat) (xs : Nat → Int32) (hL : L ≤ 3072) {i : Nat} (hi : i + 6 ≤ L) (o5 o6 : Option Value) (σ : ra_S) (h1 : (xs i &&& (63 : Int32)) = 1) : ra_D (ra_lay, some (L, xs), 273, ra_m253) 23 (rz_lo i o5 o6) [] σ = some (.inr (rz_lo i o5 o6, []), σ) := by
  have g0 : ¬ (Int32.ofNat L - (6 : Int32)) < nI i := by
    rw [Int32.lt_iff_toInt_lt]
    show ¬ (nI L - nI 6).toInt < _
    rw [pk_sub_toInt (by omega) (by omega), nI_toInt (by omega)]
    omega
  have g1 : 0 ≤ (nI i).toInt ∧ (nI i).toInt < (L : Int) := by rw [nI_toInt (by omega)]; omega
  rw [e_253L1_23, if_neg g0, if_pos g1, nI_clamp (by omega), if_neg (by rw [h1]; decide),  if_pos h1]
theorem rz_turn4 (L : Nat) (xs : Nat → Int32) (hL : L ≤ 3072) {i : Nat} (hi : i + 6 ≤ L) (o5 o6 : Option Value) (σ : ra_S) (h1 : (xs i &&& (63 : Int32)) = 4) : ra_D (ra_lay, some (L, xs), 360, ra_m253) 23 (rz_lo i o5 o6) [] σ = some (.inr (rz_lo i o5 o6, []), σ) := by
  have g0 : ¬ (Int32.ofNat L - (6 : Int32)) < nI i := by
    rw [Int32.lt_iff_toInt_lt]
    show ¬ (nI L - nI 6).toInt < _
    rw [pk_sub_toInt (by omega) (by omega), nI_toInt (by omega)]
    omega
  have g1 : 0 ≤ (nI i).toInt ∧ (nI i).toInt < (L : Int) := by rw [nI_toInt (by omega)]; omega
  rw [e_253L4_23, if_neg g0, if_pos g1, nI_clamp (by omega), if_neg (by rw [h1]; decide), if_neg (by rw [h1]; decide), if_neg (by rw [h1]; decide), if_neg (by rw [h1]; decide),  if_pos h1]
theorem rz_inc (i : Nat) (o5 o6 : Option Value) (σ : ra_S) : ra_rn 3 (ra_lay, none, 23, ra_m253) 1734 (rz_lo i o5 o6) [] σ = some (.inr (rz_lo (i + 6) o5 o6, []), σ) := by
  have : ra_rn 3 (ra_lay, none, 23, ra_m253) 1734 (rz_lo i o5 o6) [] σ = some (.inr ([some (.ref 999), some (.ref 0), some (.ref 86), some (.ref 115), some (.int (nI i + 6)), o5, o6], []), σ) := rfl
  rw [this, show nI i + (6 : Int32) = nI (i + 6) from nI_add i 6]
theorem rz_mok_law : ra_mok ra_m253 := by
  have hb : ra_mokb ra_m253 = true := by decide +kernel
  have hk : ∀ pc e, ra_m253.2.2.2.2.2.2 pc = some e → ra_eok ra_m253 pc e = true := by
    have key : ∀ (a n : Nat), ra_chkR ra_m253 a n = true → ∀ pc e, a ≤ pc → pc < a + n → ra_m253.2.2.2.2.2.2 pc = some e → ra_eok ra_m253 pc e = true := by
      intro a n h pc e h1 h2 he
      obtain ⟨d, rfl⟩ := Nat.le.dest h1
      have h3 := List.all_eq_true.mp h d (List.mem_range.mpr (by omega))
      rw [he] at h3
      exact h3
    intro pc e he
    have hlt : pc < 1742 := by
      by_cases q : pc < 1742
      · exact q
      · rw [show ra_m253.2.2.2.2.2.2 pc = none from ra_gn (Nat.le_of_not_lt q)] at he
        cases he
    by_cases z0 : pc < 120
    · exact key 0 120 ra_lk0 pc e (by omega) (by omega) he
    by_cases z120 : pc < 240
    · exact key 120 120 ra_lk120 pc e (by omega) (by omega) he
    by_cases z240 : pc < 360
    · exact key 240 120 ra_lk240 pc e (by omega) (by omega) he
    by_cases z360 : pc < 480
    · exact key 360 120 ra_lk360 pc e (by omega) (by omega) he
    by_cases z480 : pc < 600
    · exact key 480 120 ra_lk480 pc e (by omega) (by omega) he
    by_cases z600 : pc < 720
    · exact key 600 120 ra_lk600 pc e (by omega) (by omega) he
    by_cases z720 : pc < 840
    · exact key 720 120 ra_lk720 pc e (by omega) (by omega) he
    by_cases z840 : pc < 960
    · exact key 840 120 ra_lk840 pc e (by omega) (by omega) he
    by_cases z960 : pc < 1080
    · exact key 960 120 ra_lk960 pc e (by omega) (by omega) he
    by_cases z1080 : pc < 1200
    · exact key 1080 120 ra_lk1080 pc e (by omega) (by omega) he
    by_cases z1200 : pc < 1320
    · exact key 1200 120 ra_lk1200 pc e (by omega) (by omega) he
    by_cases z1320 : pc < 1440
    · exact key 1320 120 ra_lk1320 pc e (by omega) (by omega) he
    by_cases z1440 : pc < 1560
    · exact key 1440 120 ra_lk1440 pc e (by omega) (by omega) he
    by_cases z1560 : pc < 1680
    · exact key 1560 120 ra_lk1560 pc e (by omega) (by omega) he
    exact key 1680 62 ra_lk1680 pc e (by omega) (by omega) he
  unfold ra_mokb at hb
  simp only [Bool.and_eq_true, decide_eq_true_eq] at hb
  exact ⟨hb.1, hb.2.1, hb.2.2.1, hb.2.2.2, hk⟩
