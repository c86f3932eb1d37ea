-- ===== strike, known =====
theorem rz_np_uniq {σ : ra_S} {np nb nl nw np' nb' nl' nw' : Nat} (h : rz_counts np nb nl nw σ) (h' : rz_counts np' nb' nl' nw' σ) : np' = np ∧ nb' = nb ∧ nl' = nl ∧ nw' = nw := by
  obtain ⟨⟨a1, -, a2⟩, ⟨a3, -, a4⟩, ⟨a5, -, a6⟩, ⟨a7, -, a8⟩, -⟩ := h
  obtain ⟨⟨b1, -, b2⟩, ⟨b3, -, b4⟩, ⟨b5, -, b6⟩, ⟨b7, -, b8⟩, -⟩ := h'
  rw [a1] at b1
  rw [a3] at b3
  rw [a5] at b5
  rw [a7] at b7
  exact ⟨((nI_eq (by omega) (by omega)).mp b1).symm, ((nI_eq (by omega) (by omega)).mp b3).symm, ((nI_eq (by omega) (by omega)).mp b5).symm, ((nI_eq (by omega) (by omega)).mp b7).symm⟩
theorem rz_nn_uniq {σ : ra_S} {np nb nn np' nb' nn' : Nat} (h : rz_notes np nb nn σ) (h' : rz_notes np' nb' nn' σ) : nn' = nn := by
  obtain ⟨a1, -, a2, -⟩ := h
  obtain ⟨b1, -, b2, -⟩ := h'
  rw [a1] at b1
  exact ((nI_eq (by omega) (by omega)).mp b1).symm
theorem rz_n40 {nn : Nat} (h : nn < 40) : ¬ nI nn = (40 : Int32) := fun q => by
  have := (nI_eq (a := nn) (b := 40) (by omega) (by omega)).mp q
  omega
theorem rz_strike {σ : ra_S} (h : rz_R σ) (a : Int32) : rz_OI 113 221 [.int a] σ := by
  obtain ⟨np, nb, nl, nw, ku, tp, nn, tc, hc, -, -, -, -, -, -, hn, -, -⟩ := id h
  obtain ⟨n1, n2, n3, n4, n5, n6⟩ := id hn
  have z0 : (0 : Int32).toInt = 0 := rfl
  have tn : (nI nn).toInt = nn := nI_toInt (by omega)
  by_cases v1 : 0 ≤ a.toInt ∧ a.toInt < nn
  · obtain ⟨j, hj, rfl⟩ := rz_nat (by omega) v1
    have m0 : ¬ nI j < 0 := nI_pos (by omega)
    have m1 : nI j < nI nn := nI_lt hj (by omega)
    by_cases full : nn = 40
    · subst full
      refine ⟨-1, σ, ra_ui σ 86 2 0, ?_, ?_, rz_R_ui rfl h⟩
      · rw [e_113, e_13, n1, if_neg m0, if_pos m1, rz_add_full n1, ra_kI, ra_kI]
      · rw [e_221, n2]; rfl
    · have hlt : nn < 40 := by omega
      refine ⟨nI nn, ra_ui (ra_ui (ra_ui (ra_ui (ra_ui σ 57 nn (-1)) 58 nn (-1)) 59 nn 0) 60 nn (nI j)) 56 0 (nI (nn + 1)), ra_ui (ra_ui (ra_ui (ra_ui (ra_ui (ra_ui (ra_ui (ra_ui (ra_ui σ 57 nn (-1)) 58 nn (-1)) 59 nn 0) 60 nn (nI j)) 56 0 (nI (nn + 1))) 86 2 0) 106 nn (-1)) 107 nn (nI j)) 86 47 (nI (nn + 1)), ?_, ?_, ?_⟩
      · rw [e_113, e_13, n1, if_neg m0, if_pos m1, rz_add_note n1 hlt, ra_kI, ra_kI]
      · generalize hτ : ra_ui (ra_ui (ra_ui (ra_ui (ra_ui σ 57 nn (-1)) 58 nn (-1)) 59 nn 0) 60 nn (nI j)) 56 0 (nI (nn + 1)) = τ
        have q2 : τ.1 86 47 = nI nn := by subst hτ; exact n2
        have t : 0 ≤ (nI nn).toInt ∧ (nI nn).toInt < 40 := by omega
        rw [e_221, q2, if_neg (rz_n40 hlt), if_neg m0, if_pos m1, if_pos t, if_pos t, nI_clamp (by omega), rz_nI_pred, nI_1]
      · refine rz_R_notes (σ := σ) (fun c' k' hP hN => ?_) (fun np' nb' nl' nw' nn' hc' hn' => ?_) h
        · simp only [ra_ui_get]
          have d1 : ¬ (c' = 86 ∧ k' = 47) := by rintro ⟨rfl, rfl⟩; cases hN
          have d3 : ¬ c' = 107 := by rintro rfl; cases hN
          have d4 : ¬ c' = 106 := by rintro rfl; cases hN
          have d5 : ¬ (c' = 86 ∧ k' = 2) := by rintro ⟨rfl, rfl⟩; cases hP
          have d6 : ¬ (c' = 56 ∧ k' = 0) := by rintro ⟨rfl, rfl⟩; cases hN
          have d7 : ¬ c' = 60 := by rintro rfl; cases hN
          have d8 : ¬ c' = 59 := by rintro rfl; cases hN
          have d9 : ¬ c' = 58 := by rintro rfl; cases hN
          have d10 : ¬ c' = 57 := by rintro rfl; cases hN
          simp only [d1, d3, d4, d5, d6, d7, d8, d9, d10, false_and, if_false]
        · have en := rz_nn_uniq hn hn'
          obtain ⟨ep, eb, -, -⟩ := rz_np_uniq hc hc'
          subst en ep eb
          refine ⟨nn' + 1, ?_⟩
          unfold rz_notes
          simp only [ra_ui_get]
          simp only [Nat.reduceEqDiff, false_and, true_and, and_false, if_false, if_true, and_true, Nat.reduceAdd]
          refine ⟨by omega, n4, ⟨n5.1, by have := n5.2; push_cast; omega⟩, fun k hk => ?_⟩
          by_cases ek : k = nn'
          · subst ek
            refine Or.inr ⟨j, hj, ?_⟩
            simp only [if_true]
            exact ⟨trivial, trivial, trivial, trivial⟩
          · simp only [ek, if_false]
            exact n6 k (by omega)
  · refine ⟨-1, σ, ra_ui σ 86 2 0, ?_, ?_, rz_R_ui rfl h⟩
    · rw [e_113, e_13, n1]
      by_cases q1 : a < 0
      · rw [if_pos q1, ra_kI]
      · rw [if_neg q1, if_neg, ra_kI]
        intro q2
        rw [Int32.lt_iff_toInt_lt] at q1 q2
        omega
    · rw [e_221, n2]
      split
      · rfl
      by_cases q1 : a < 0
      · rw [if_pos q1]
      · rw [if_neg q1, if_neg]
        intro q2
        rw [Int32.lt_iff_toInt_lt] at q1 q2
        omega
theorem rz_known {σ : ra_S} (h : rz_R σ) (a : Int32) : rz_OI 114 222 [.int a] σ := by
  obtain ⟨np, nb, nl, nw, ku, tp, nn, tc, hc, -, -, -, -, -, -, hn, -, -⟩ := id h
  obtain ⟨n1, n2, n3, n4, n5, n6⟩ := id hn
  have tn : (nI nn).toInt = nn := nI_toInt (by omega)
  by_cases v1 : -1 ≤ a.toInt ∧ a.toInt ≤ nn
  · refine ⟨1, ra_ui σ 56 1 a, ra_ui (ra_ui (ra_ui σ 56 1 a) 86 2 0) 86 48 a, ?_, ?_, ?_⟩
    · rw [e_114, n1, ra_c_within, ra_kI, if_neg (by rw [ra_b0, tn]; exact fun q => q v1)]
    · rw [e_222, show (ra_ui σ 56 1 a).1 86 47 = nI nn from n2, ra_m_isIn, ra_kI, if_neg (by rw [ra_b0, tn]; exact fun q => q v1)]
    · refine rz_R_notes (σ := σ) (fun c' k' hP hN => ?_) (fun np' nb' nl' nw' nn' hc' hn' => ?_) h
      · simp only [ra_ui_get]
        have d1 : ¬ (c' = 86 ∧ k' = 48) := by rintro ⟨rfl, rfl⟩; cases hN
        have d5 : ¬ (c' = 86 ∧ k' = 2) := by rintro ⟨rfl, rfl⟩; cases hP
        have d6 : ¬ (c' = 56 ∧ k' = 1) := by rintro ⟨rfl, rfl⟩; cases hN
        simp only [d1, d5, d6, if_false]
      · have en := rz_nn_uniq hn hn'
        subst en
        obtain ⟨m1, m2, m3, m4, m5, m6⟩ := hn'
        refine ⟨nn', ?_⟩
        unfold rz_notes
        simp only [ra_ui_get]
        simp only [Nat.reduceEqDiff, false_and, true_and, and_false, if_false, if_true, and_true, Nat.reduceAdd]
        exact ⟨m1, m2, m3, v1, m6⟩
  · refine ⟨0, σ, ra_ui σ 86 2 0, ?_, ?_, rz_R_ui rfl h⟩
    · rw [e_114, n1, ra_c_within, ra_kI, if_pos (by rw [ra_b0, tn]; exact v1)]
    · rw [e_222, n2, ra_m_isIn, ra_kI, if_pos (by rw [ra_b0, tn]; exact v1)]
