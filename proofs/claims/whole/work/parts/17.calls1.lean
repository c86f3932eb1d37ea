-- ===== law, notes =====
theorem rz_c_has {σ : ra_S} {nl : Nat} (hn : σ.1 11 0 = nI nl) (hb : nl ≤ 6) (p : Int32) : ra_C 17 [.ref 11, .int p] σ = ra_I (if 0 ≤ p.toInt ∧ p.toInt < nl then 1 else 0) σ := by
  have h1 : (nI nl).toInt = nl := nI_toInt (by omega)
  rw [e_17]
  simp only [hn, Int32.lt_iff_toInt_lt, h1, Int32.reduceToInt]
  repeat' split
  all_goals first | rfl | (exfalso; omega)
theorem rz_mul4 (l w : Nat) : nI l * (4 : Int32) + nI w = nI (4 * l + w) := by
  rw [show nI l * (4 : Int32) = nI (l * 4) from pk_mul l 4, nI_add, Nat.mul_comm]
theorem rz_mul6 (l w : Nat) : (6 : Int32) * nI l + nI w = nI (6 * l + w) := by
  rw [show (6 : Int32) * nI l = nI (6 * l) from pk_mul 6 l, nI_add]
theorem rz_c_weight {σ : ra_S} {nl l w : Nat} (hn : σ.1 11 0 = nI nl) (hb : nl ≤ 6) (hl : l < nl) (hw : w < 4) : ra_C 18 [.ref 11, .int (nI l), .int (nI w)] σ = ra_I (σ.1 13 (4 * l + w)) σ := by
  have t1 : (nI l).toInt = l := nI_toInt (by omega)
  rw [e_18, rz_c_has hn hb, ra_kI, if_neg (by rw [ra_b0, t1]; simp; omega), if_neg (nI_pos (by omega)), if_pos (show nI w < (4 : Int32) from nI_lt (a := w) (b := 4) hw (by omega)), rz_mul4, if_pos (by rw [nI_toInt (by omega)]; omega), nI_clamp (by omega)]
theorem rz_law {σ : ra_S} (h : rz_R σ) (a b : Int32) : rz_OI 82 177 [.int a, .int b] σ := by
  obtain ⟨np, nb, nl, nw, ku, tp, nn, tc, hc, hl, -⟩ := id h
  obtain ⟨-, -, ⟨c5, c6, c7⟩, -⟩ := hc
  have t0 : (nI nl).toInt = nl := nI_toInt (by omega)
  have z0 : (0 : Int32).toInt = 0 := rfl
  by_cases hin : 0 ≤ a.toInt ∧ a.toInt < nl
  · obtain ⟨l, hll, rfl⟩ := rz_nat (by omega) hin
    obtain ⟨-, l1, ⟨l2, -⟩, l3, l4⟩ := hl l hll
    have m0 : ¬ nI l < 0 := nI_pos (by omega)
    have m1 : nI l < nI nl := nI_lt hll (by omega)
    by_cases hb : 0 ≤ b.toInt ∧ b.toInt ≤ 5
    · obtain ⟨w, hw, rfl⟩ := rz_nat' (n := 5) (by omega) hb
      have tw : (nI w).toInt = w := nI_toInt (by omega)
      refine ⟨σ.1 91 (6 * l + w), σ, ra_ui σ 86 2 0, ?_, ?_, rz_R_ui rfl h⟩
      · rw [e_82, rz_c_has c5 c7, ra_kI, if_neg (by rw [ra_b0]; simp; omega), if_neg (nI_pos (by omega))]
        by_cases h4 : w < 4
        · rw [if_pos (show nI w < (4 : Int32) from nI_lt (a := w) (b := 4) h4 (by omega)), rz_c_weight c5 c7 hll h4, ra_kI, (l1 w h4).1]
        · rw [if_neg (show ¬ nI w < (4 : Int32) from nI_nlt (a := w) (b := 4) (by omega) (by omega)), e_82_35]
          rcases (show w = 4 ∨ w = 5 by omega) with rfl | rfl
          · rw [if_pos (show nI 4 = (4 : Int32) from rfl), if_pos (by rw [nI_toInt (by omega)]; omega), nI_clamp (by omega), l2]
          · rw [if_neg (show ¬ nI 5 = (4 : Int32) by decide), if_pos (show nI 5 = (5 : Int32) from rfl), if_pos (by rw [nI_toInt (by omega)]; omega), nI_clamp (by omega), l3]
            rcases l4 with l4 | l4 <;> rw [l4] <;> rfl
      · rw [e_177, c6, if_neg m0, if_pos m1, ra_m_isIn, ra_kI, if_neg (by rw [ra_b0]; simp only [Int32.reduceToInt]; omega), rz_mul6, if_pos (by rw [nI_toInt (by omega)]; omega), nI_clamp (by omega), ra_ui_1 91 (by decide)]
    · refine ⟨-2147483648, σ, ra_ui σ 86 2 0, ?_, ?_, rz_R_ui rfl h⟩
      · rw [e_82, rz_c_has c5 c7, ra_kI, if_neg (by rw [ra_b0]; simp; omega)]
        have e35 : ra_D (ra_lay, none, 99999, ra_m82) 35 [some (.ref 0), some (.int (nI l)), some (.int b), some (.ref 11)] [] σ = ra_I (-2147483648) σ := by
          rw [e_82_35, if_neg (fun q => hb (by rw [q]; decide)), if_neg (fun q => hb (by rw [q]; decide))]
        rw [e35]
        repeat' split
        all_goals first | rfl | skip
        rename_i q1 q2
        exfalso
        rw [Int32.lt_iff_toInt_lt] at q1 q2
        have z4 : (4 : Int32).toInt = 4 := rfl
        omega
      · rw [e_177, c6, if_neg m0, if_pos m1, ra_m_isIn, ra_kI, if_pos (by rw [ra_b0]; exact hb)]
  · refine ⟨-2147483648, σ, ra_ui σ 86 2 0, ?_, ?_, rz_R_ui rfl h⟩
    · rw [e_82, rz_c_has c5 c7, ra_kI, if_pos (by rw [ra_b0]; exact hin)]
    · rw [e_177, c6]
      by_cases q1 : a < 0
      · rw [if_pos q1]
      · rw [if_neg q1, if_neg]
        intro q2
        rw [Int32.lt_iff_toInt_lt] at q1 q2
        omega
theorem rz_nI_pred (n : Nat) : nI n + 1 - 1 = nI n := by rw [nI_1, nI_pred]
theorem rz_add_note {σ : ra_S} {nn : Nat} (h1 : σ.1 56 0 = nI nn) (hn : nn < 40) (a b c d : Int32) : ra_C 14 [.ref 56, .int a, .int b, .int c, .int d] σ = ra_I (nI nn) (ra_ui (ra_ui (ra_ui (ra_ui (ra_ui σ 57 nn a) 58 nn b) 59 nn c) 60 nn d) 56 0 (nI (nn + 1))) := by
  have t : 0 ≤ (nI nn).toInt ∧ (nI nn).toInt < 40 := by rw [nI_toInt (by omega)]; omega
  rw [e_14, h1, if_neg (nI_pos (by omega)), if_pos (show nI nn < (40 : Int32) from nI_lt (a := nn) (b := 40) hn (by omega)), if_pos t, if_pos t, if_pos t, if_pos t, nI_clamp (by omega), rz_nI_pred, nI_1]
theorem rz_add_full {σ : ra_S} (h1 : σ.1 56 0 = nI 40) (a b c d : Int32) : ra_C 14 [.ref 56, .int a, .int b, .int c, .int d] σ = ra_I (-1) σ := by
  rw [e_14, h1]; rfl
set_option maxHeartbeats 1000000 in
theorem rz_film {σ : ra_S} (h : rz_R σ) (a b c : Int32) : rz_OI 112 220 [.int a, .int b, .int c] σ := by
  obtain ⟨np, nb, nl, nw, ku, tp, nn, tc, hc, -, -, -, -, -, -, hn, -, -⟩ := id h
  obtain ⟨⟨c1, c2, c3⟩, ⟨c4, c5, c6⟩, -⟩ := id hc
  obtain ⟨n1, n2, n3, n4, n5, n6⟩ := id hn
  have k1 := fun τ (hτ : τ.1 86 14 = nI np) => ra_m_isPlayer (σ := τ) hτ c3 a
  have k2 := fun τ (hτ : τ.1 86 12 = nI nb) => ra_m_isBeat (σ := τ) hτ c6 b
  by_cases v1 : 0 ≤ a.toInt ∧ a.toInt < np
  · by_cases v2 : 0 ≤ b.toInt ∧ b.toInt < nb
    · by_cases v3 : -1000000 ≤ c.toInt ∧ c.toInt ≤ 1000000
      · by_cases full : nn = 40
        · subst full
          refine ⟨-1, σ, ra_ui σ 86 2 0, ?_, ?_, rz_R_ui rfl h⟩
          · rw [e_112, ra_c_isPlayer c1 c3, ra_kI, if_neg (by rw [ra_b0]; exact fun q => q v1), ra_c_isBeat c4 c6, ra_kI, if_neg (by rw [ra_b0]; exact fun q => q v2), ra_c_within, ra_kI, if_neg (by rw [ra_b0]; exact fun q => q v3), e_12, rz_add_full n1, ra_kI, ra_kI]
          · rw [e_220, n2]; rfl
        · have hlt : nn < 40 := by omega
          refine ⟨nI nn, ra_ui (ra_ui (ra_ui (ra_ui (ra_ui σ 57 nn a) 58 nn b) 59 nn c) 60 nn (-1)) 56 0 (nI (nn + 1)), ra_ui (ra_ui (ra_ui (ra_ui (ra_ui (ra_ui (ra_ui (ra_ui (ra_ui (ra_ui σ 57 nn a) 58 nn b) 59 nn c) 60 nn (-1)) 56 0 (nI (nn + 1))) 86 2 0) 106 nn a) 107 nn b) 108 nn c) 86 47 (nI (nn + 1)), ?_, ?_, ?_⟩
          · rw [e_112, ra_c_isPlayer c1 c3, ra_kI, if_neg (by rw [ra_b0]; exact fun q => q v1), ra_c_isBeat c4 c6, ra_kI, if_neg (by rw [ra_b0]; exact fun q => q v2), ra_c_within, ra_kI, if_neg (by rw [ra_b0]; exact fun q => q v3), e_12, rz_add_note n1 hlt, ra_kI, ra_kI]
          · generalize hτ : ra_ui (ra_ui (ra_ui (ra_ui (ra_ui σ 57 nn a) 58 nn b) 59 nn c) 60 nn (-1)) 56 0 (nI (nn + 1)) = τ
            have q1 : (ra_ui τ 86 2 0).1 86 47 = nI nn := by subst hτ; exact n2
            have q2 : τ.1 86 47 = nI nn := by subst hτ; exact n2
            have q3 : (ra_ui τ 86 2 0).1 86 14 = nI np := by subst hτ; exact c2
            have q4 : (ra_ui τ 86 2 0).1 86 12 = nI nb := by subst hτ; exact c5
            have t : 0 ≤ (nI nn).toInt ∧ (nI nn).toInt < 40 := by rw [nI_toInt (by omega)]; omega
            rw [e_220, q2, if_neg (show ¬ nI nn = (40 : Int32) from fun q => full ((nI_eq (by omega) (by omega)).mp (show nI nn = nI 40 from q))), k1 _ q3, ra_kI, if_neg (by rw [ra_b0]; exact fun q => q v1), k2 _ q4, ra_kI, if_neg (by rw [ra_b0]; exact fun q => q v2), ra_m_isIn, ra_kI, if_neg (by rw [ra_b0]; exact fun q => q v3), q1, if_pos t, if_pos t, if_pos t, nI_clamp (by omega), rz_nI_pred, nI_1]
          · obtain ⟨p, hp, rfl⟩ := rz_nat (by omega) v1
            obtain ⟨n, hnb, rfl⟩ := rz_nat (by omega) v2
            refine rz_R_notes (σ := σ) (fun c' k' hP hN => ?_) (fun np' nb' nl' nw' nn' hc' hn' => ?_) h
            · simp only [ra_ui_get]
              have d1 : ¬ (c' = 86 ∧ k' = 47) := by rintro ⟨rfl, rfl⟩; cases hN
              have d2 : ¬ c' = 108 := by rintro rfl; cases hN
              have d3 : ¬ c' = 107 := by rintro rfl; cases hN
              have d4 : ¬ c' = 106 := by rintro rfl; cases hN
              have d5 : ¬ (c' = 86 ∧ k' = 2) := by rintro ⟨rfl, rfl⟩; cases hP
              have d6 : ¬ (c' = 56 ∧ k' = 0) := by rintro ⟨rfl, rfl⟩; cases hN
              have d7 : ¬ c' = 60 := by rintro rfl; cases hN
              have d8 : ¬ c' = 59 := by rintro rfl; cases hN
              have d9 : ¬ c' = 58 := by rintro rfl; cases hN
              have d10 : ¬ c' = 57 := by rintro rfl; cases hN
              simp only [d1, d2, d3, d4, d5, d6, d7, d8, d9, d10, false_and, if_false]
            · have en : nn' = nn := by
                have := hn'.1
                rw [n1] at this
                exact ((nI_eq (by omega) (by have := hn'.2.2.1; omega)).mp this).symm
              have ep : np' = np := by
                have := hc'.1.1
                rw [c1] at this
                exact ((nI_eq (by omega) (by have := hc'.1.2.2; omega)).mp this).symm
              have eb : nb' = nb := by
                have := hc'.2.1.1
                rw [c4] at this
                exact ((nI_eq (by omega) (by have := hc'.2.1.2.2; omega)).mp this).symm
              subst en ep eb
              refine ⟨nn' + 1, ?_⟩
              unfold rz_notes
              simp only [ra_ui_get]
              simp only [Nat.reduceEqDiff, false_and, true_and, and_false, if_false, if_true, and_true, Nat.reduceAdd]
              refine ⟨by omega, n4, ⟨n5.1, by have := n5.2; push_cast; omega⟩, fun k hk => ?_⟩
              by_cases ek : k = nn'
              · subst ek
                refine Or.inl ⟨p, n, hp, hnb, ?_⟩
                simp only [if_true]
                exact ⟨trivial, trivial, trivial, trivial, trivial, v3, trivial⟩
              · simp only [ek, if_false]
                exact n6 k (by omega)
      · refine ⟨-1, σ, ra_ui σ 86 2 0, ?_, ?_, rz_R_ui rfl h⟩
        · rw [e_112, ra_c_isPlayer c1 c3, ra_kI, if_neg (by rw [ra_b0]; exact fun q => q v1), ra_c_isBeat c4 c6, ra_kI, if_neg (by rw [ra_b0]; exact fun q => q v2), ra_c_within, ra_kI, if_pos (by rw [ra_b0]; exact v3)]
        · rw [e_220]
          split
          · rfl
          rw [k1 (ra_ui σ 86 2 0) c2, ra_kI, if_neg (by rw [ra_b0]; exact fun q => q v1), k2 (ra_ui σ 86 2 0) c5, ra_kI, if_neg (by rw [ra_b0]; exact fun q => q v2), ra_m_isIn, ra_kI, if_pos (by rw [ra_b0]; exact v3)]
    · refine ⟨-1, σ, ra_ui σ 86 2 0, ?_, ?_, rz_R_ui rfl h⟩
      · rw [e_112, ra_c_isPlayer c1 c3, ra_kI, if_neg (by rw [ra_b0]; exact fun q => q v1), ra_c_isBeat c4 c6, ra_kI, if_pos (by rw [ra_b0]; exact v2)]
      · rw [e_220]
        split
        · rfl
        rw [k1 (ra_ui σ 86 2 0) c2, ra_kI, if_neg (by rw [ra_b0]; exact fun q => q v1), k2 (ra_ui σ 86 2 0) c5, ra_kI, if_pos (by rw [ra_b0]; exact v2)]
  · refine ⟨-1, σ, ra_ui σ 86 2 0, ?_, ?_, rz_R_ui rfl h⟩
    · rw [e_112, ra_c_isPlayer c1 c3, ra_kI, if_pos (by rw [ra_b0]; exact v1)]
    · rw [e_220]
      split
      · rfl
      rw [k1 (ra_ui σ 86 2 0) c2, ra_kI, if_pos (by rw [ra_b0]; exact v1)]
