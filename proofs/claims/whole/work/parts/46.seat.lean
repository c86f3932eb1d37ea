-- ===== seat =====
theorem rz_seat {σ : ra_S} (h : rz_R σ) (a b d : Int32) : rz_OI 94 201 [.int a, .int b, .int d] σ := by
  obtain ⟨np, nb, nl, nw, ku, tp, nn, tc, hc, -, hpl, -, -, hs, hu, -⟩ := id h
  obtain ⟨⟨c1, c2, c3⟩, -⟩ := id hc
  obtain ⟨k1, k2, k3, k4, k5, -⟩ := id hu
  have m14 : (ra_ui σ 86 2 0).1 86 14 = nI np := c2
  by_cases v1 : 0 ≤ a.toInt ∧ a.toInt < np
  · by_cases v2 : 0 ≤ b.toInt ∧ b.toInt ≤ 30
    · by_cases v3 : 0 ≤ d.toInt ∧ d.toInt ≤ 30
      · obtain ⟨p, hp, rfl⟩ := rz_nat (by omega) v1
        generalize hτ : ra_ui (ra_ui (ra_ui (ra_ui (ra_ui (ra_ui (ra_ui (ra_ui σ 52 tp (nI p)) 53 tp (σ.1 49 p)) 54 tp (σ.1 50 p)) 55 tp (σ.1 51 p)) 48 4 (nI ((tp + 1) % 20))) 48 3 (nI (rz_ku1 ku))) 49 p b) 50 p d = τ1
        have e1 : ra_C 94 [.ref 0, .int (nI p), .int b, .int d] σ = ra_I 1 τ1 := by
          rw [e_94, ra_c_isPlayer c1 c3, ra_kI, rz_t v1, rz_c_in _ _ 0 30 rfl rfl, ra_kI, rz_t v2, rz_c_in _ _ 0 30 rfl rfl, ra_kI, rz_t v3, rz_c_rem (by omega) k1 k3 k4 k5, ra_kV, rz_ig (by omega) (by omega), rz_ig (by omega) (by omega), nI_clamp (by omega), hτ]
        have fr : ∀ c, ¬ (c = 48 ∨ c = 49 ∨ c = 50 ∨ (52 ≤ c ∧ c ≤ 55)) → τ1.1 c = σ.1 c := fun c hcn => by
          rw [← hτ, ra_ui_1 c (by omega), ra_ui_1 c (by omega), ra_ui_1 c (by omega), ra_ui_1 c (by omega), ra_ui_1 c (by omega), ra_ui_1 c (by omega), ra_ui_1 c (by omega), ra_ui_1 c (by omega)]
        have s93 : (ra_ui τ1 86 2 0).1 93 = σ.1 93 := by rw [ra_ui_1 93 (by decide), fr 93 (by omega)]
        obtain ⟨τ2, e2, g1, g2, g3, g4, g5, g6, g7, g8⟩ := rz_m_rem (σ := ra_ui τ1 86 2 0) (ku := ku) (by rw [ra_ui_get, if_neg (by decide), fr 86 (by omega)]; exact k2) k3 (nI p) 1 (σ.1 93 (5 * p + 1)) (σ.1 93 (5 * p + 2))
        refine ⟨1, τ1, ra_ui (ra_ui τ2 93 (5 * p + 1) b) 93 (5 * p + 2) d, e1, ?_, ?_⟩
        · rw [e_201, ra_m_isPlayer (σ := ra_ui τ1 86 2 0) (by rw [ra_ui_get, if_neg (by decide), fr 86 (by omega)]; exact c2) c3, ra_kI, rz_t v1, rz_m_in _ _ 0 30 rfl rfl, ra_kI, rz_t v2, rz_m_in _ _ 0 30 rfl rfl, ra_kI, rz_t v3, rz_mul5_1, rz_mul5_2, rz_ig (by omega) (by omega), rz_ig (by omega) (by omega), nI_clamp (by omega), nI_clamp (by omega), s93, e2, ra_kV, rz_ig (by omega) (by omega), rz_ig (by omega) (by omega)]
        · generalize hυ : ra_ui (ra_ui τ2 93 (5 * p + 1) b) 93 (5 * p + 2) d = υ
          have t2 : ∀ c, c ≠ 86 → c ≠ 93 → c ≠ 103 → υ.1 c = τ1.1 c := fun c c1 c2 c3 => by rw [← hυ, ra_ui_1 c c2, ra_ui_1 c c2, g1 c c3 c1, ra_ui_1 c c1]
          have fr2 : ∀ c, ¬ (c = 48 ∨ c = 49 ∨ c = 50 ∨ (52 ≤ c ∧ c ≤ 55) ∨ c = 86 ∨ c = 93 ∨ c = 103) → υ.1 c = σ.1 c := fun c hcn => by
            rw [t2 c (by omega) (by omega) (by omega), fr c (by omega)]
          have a93 : ∀ i, υ.1 93 i = if i = 5 * p + 2 then d else if i = 5 * p + 1 then b else σ.1 93 i := fun i => by
            rw [← hυ]
            simp only [ra_ui_get, true_and]
            rw [g1 93 (by decide) (by decide), s93]
          have a103 : υ.1 103 = τ2.1 103 := by rw [← hυ, ra_ui_1 103 (by decide), ra_ui_1 103 (by decide)]
          refine rz_R_stage (σ := σ) (fun c k hP hS => ?_) (fun np' nb' nl' nw' ku' tp' hc' hp' hs' hu' => ?_) h
          · by_cases y : c = 86
            · subst y
              have d2 : k ≠ 2 := by rintro rfl; cases hP
              have d43 : k ≠ 43 := by rintro rfl; cases hS
              rw [← hυ, ra_ui_1 86 (by decide), ra_ui_1 86 (by decide), g2 k d43, ra_ui_get, if_neg (fun x => d2 x.2), fr 86 (by omega)]
            · by_cases w : c = 48
              · subst w
                have d3 : k ≠ 3 := by rintro rfl; cases hS
                have d4 : k ≠ 4 := by rintro rfl; cases hS
                rw [t2 48 (by decide) (by decide) (by decide), ← hτ]
                simp only [ra_ui_get, Nat.reduceEqDiff, false_and, if_false, true_and, d3, d4]
              · have d' : ¬ (49 ≤ c ∧ c ≤ 55) := fun x => by
                  rcases (show c = 49 ∨ c = 50 ∨ c = 51 ∨ c = 52 ∨ c = 53 ∨ c = 54 ∨ c = 55 by omega) with rfl | rfl | rfl | rfl | rfl | rfl | rfl <;> cases hS
                have d1 : c ≠ 93 := by rintro rfl; cases hS
                have d2 : c ≠ 103 := by rintro rfl; cases hS
                rw [fr2 c (by omega)]
          · obtain ⟨ep, -, -, -⟩ := rz_np_uniq hc hc'
            subst ep
            refine ⟨rz_ku1 ku, (tp + 1) % 20, ?_, ?_, ?_⟩
            · intro q hq
              have := hp' q hq
              rw [fr2 17 (by omega), fr2 18 (by omega), fr2 21 (by omega), fr2 22 (by omega), fr2 23 (by omega), fr2 24 (by omega), fr2 92 (by omega), fr2 94 (by omega), fr2 95 (by omega), a93, a93, a93, if_neg (by omega), if_neg (by omega), if_neg (by omega), if_neg (by omega), if_neg (by omega), if_neg (by omega)]
              exact this
            · intro q hq
              obtain ⟨a1, a2, a3, a4⟩ := hs' q hq
              have b49 : υ.1 49 q = if q = p then b else σ.1 49 q := by
                rw [t2 49 (by decide) (by decide) (by decide), ← hτ]
                simp only [ra_ui_get, Nat.reduceEqDiff, false_and, if_false, true_and]
              have b50 : υ.1 50 q = if q = p then d else σ.1 50 q := by
                rw [t2 50 (by decide) (by decide) (by decide), ← hτ]
                simp only [ra_ui_get, Nat.reduceEqDiff, false_and, if_false, true_and]
              rw [b49, b50, a93, a93, fr2 51 (by omega), fr2 101 (by omega)]
              by_cases y : q = p
              · subst y
                rw [if_pos rfl, if_pos rfl, if_neg (by omega), if_pos rfl, if_pos rfl]
                exact ⟨⟨rfl, v2⟩, ⟨rfl, v3⟩, a3, a4⟩
              · rw [if_neg y, if_neg y, if_neg (by omega), if_neg (by omega), if_neg (by omega), if_neg (by omega)]
                exact ⟨a1, a2, a3, a4⟩
            · refine rz_undo_more hu hs hp ?_ ?_ ?_ (fun i => ?_) (fun i => ?_) (fun i => ?_) (fun i => ?_) (fun i hi => ?_) ?_ (fun q hq hne => ?_) (Or.inr ⟨?_, ?_, ?_, ?_⟩)
              · rw [t2 48 (by decide) (by decide) (by decide), ← hτ]; simp only [ra_ui_get, Nat.reduceEqDiff, false_and, if_false, and_self, if_true]
              · rw [← hυ, ra_ui_1 86 (by decide), ra_ui_1 86 (by decide)]; exact g3
              · rw [t2 48 (by decide) (by decide) (by decide), ← hτ]; simp only [ra_ui_get, Nat.reduceEqDiff, false_and, and_false, if_false, and_self, if_true]
              · rw [t2 52 (by decide) (by decide) (by decide), ← hτ]; simp only [ra_ui_get, Nat.reduceEqDiff, false_and, if_false, true_and]
              · rw [t2 53 (by decide) (by decide) (by decide), ← hτ]; simp only [ra_ui_get, Nat.reduceEqDiff, false_and, if_false, true_and]
              · rw [t2 54 (by decide) (by decide) (by decide), ← hτ]; simp only [ra_ui_get, Nat.reduceEqDiff, false_and, if_false, true_and]
              · rw [t2 55 (by decide) (by decide) (by decide), ← hτ]; simp only [ra_ui_get, Nat.reduceEqDiff, false_and, if_false, true_and]
              · rw [a103, g4 i hi, ra_ui_1 103 (by decide), fr 103 (by omega)]
              · rw [a103]; exact g5
              · rw [t2 49 (by decide) (by decide) (by decide), t2 50 (by decide) (by decide) (by decide), fr2 51 (by omega), ← hτ]
                simp only [ra_ui_get, Nat.reduceEqDiff, false_and, if_false, true_and, hne]
              · rw [a103]; exact g6
              · rw [a103, g7, (hs p hp).1.1]
              · rw [a103, g8, (hs p hp).2.1.1]
              · rw [fr2 51 (by omega)]
      · refine ⟨0, σ, ra_ui σ 86 2 0, ?_, ?_, rz_R_ui rfl h⟩
        · rw [e_94, ra_c_isPlayer c1 c3, ra_kI, rz_t v1, rz_c_in _ _ 0 30 rfl rfl, ra_kI, rz_t v2, rz_c_in _ _ 0 30 rfl rfl, ra_kI, rz_f v3]
        · rw [e_201, ra_m_isPlayer m14 c3, ra_kI, rz_t v1, rz_m_in _ _ 0 30 rfl rfl, ra_kI, rz_t v2, rz_m_in _ _ 0 30 rfl rfl, ra_kI, rz_f v3]
    · refine ⟨0, σ, ra_ui σ 86 2 0, ?_, ?_, rz_R_ui rfl h⟩
      · rw [e_94, ra_c_isPlayer c1 c3, ra_kI, rz_t v1, rz_c_in _ _ 0 30 rfl rfl, ra_kI, rz_f v2]
      · rw [e_201, ra_m_isPlayer m14 c3, ra_kI, rz_t v1, rz_m_in _ _ 0 30 rfl rfl, ra_kI, rz_f v2]
  · refine ⟨0, σ, ra_ui σ 86 2 0, ?_, ?_, rz_R_ui rfl h⟩
    · rw [e_94, ra_c_isPlayer c1 c3, ra_kI, rz_f v1]
    · rw [e_201, ra_m_isPlayer m14 c3, ra_kI, rz_f v1]
-- ===== undo =====
set_option maxHeartbeats 1000000 in
theorem rz_undoC {σ : ra_S} (h : rz_R σ) : rz_OI 95 202 [] σ := by
  obtain ⟨np, nb, nl, nw, ku, tp, nn, tc, hc, -, hpl, -, -, hs, hu, -⟩ := id h
  obtain ⟨⟨c1, c2, c3⟩, -⟩ := id hc
  obtain ⟨k1, k2, k3, k4, k5, U, U0, US⟩ := id hu
  by_cases z : ku = 0
  · subst z
    refine ⟨-1, σ, ra_ui σ 86 2 0, ?_, ?_, rz_R_ui rfl h⟩
    · rw [e_95, e_70, k1, if_neg (by decide), ra_kI, if_pos rfl]
    · rw [e_202, k2, if_pos (show nI 0 = (0 : Int32) from rfl)]
  · obtain ⟨q, hq, b1, b2, b3, b4, b5, b6, b7⟩ := US 0 (by omega)
    rw [Nat.sub_zero] at b1 b2 b3 b4 b5
    simp only [Nat.sub_zero] at b6 b7
    obtain ⟨T, hT⟩ : ∃ T, T = (tp + 19) % 20 := ⟨_, rfl⟩
    have hT20 : T < 20 := by rw [hT]; exact Nat.mod_lt _ (by omega)
    rw [← hT] at b1 b3 b4 b5 b6 b7
    have uq : (σ.1 49 q, σ.1 50 q, σ.1 51 q) = U 0 q := (U0 q hq).symm
    have tx : (nI tp + (20 : Int32) - 1) - (nI tp + (20 : Int32) - 1) / (20 : Int32) * (20 : Int32) = nI T := by
      rw [show nI tp + (20 : Int32) = nI (tp + 20) from nI_add tp 20, show nI (tp + 20) - (1 : Int32) = nI (tp + 19) from pk_sub (a := tp + 20) (b := 1) (by omega), show (20 : Int32) = nI 20 from rfl, pk_rem (by omega) (by omega) (by omega), hT]
    generalize hτ : ra_ui (ra_ui (ra_ui (ra_ui (ra_ui σ 48 4 (nI T)) 48 3 (nI (ku - 1))) 49 q (σ.1 53 T)) 50 q (σ.1 54 T)) 51 q (σ.1 55 T) = τ1
    have e1 : ra_C 95 [.ref 0] σ = ra_I (nI (ku - 1)) τ1 := by
      rw [e_95, e_70, k1, if_pos (show (0 : Int32) < nI ku from nI_lt (a := 0) (by omega) (by omega)), k4, if_neg (nI_pos (by omega)), tx, rz_ig (by omega) (by omega), nI_clamp (by omega), b1, if_neg (nI_pos (by omega)), show (8 : Int32) = nI 8 from rfl, rz_il (by omega) (by omega)]
      repeat rw [rz_ig (by omega) (by omega)]
      rw [nI_clamp (by omega), show nI ku - (1 : Int32) = nI (ku - 1) from pk_sub (a := ku) (b := 1) (by omega), hτ, ra_kI, if_neg (by decide), ← hτ]
      simp only [ra_ui_get, Nat.reduceEqDiff, false_and, if_false, and_self, if_true]
    have fr : ∀ c, ¬ (48 ≤ c ∧ c ≤ 51) → τ1.1 c = σ.1 c := fun c hcn => by
      rw [← hτ, ra_ui_1 c (by omega), ra_ui_1 c (by omega), ra_ui_1 c (by omega), ra_ui_1 c (by omega), ra_ui_1 c (by omega)]
    have m4 : ∀ i, (4 : Int32) * nI (ku - 1) + nI i = nI (4 * (ku - 1) + i) := fun i => by rw [show (4 : Int32) * nI (ku - 1) = nI (4 * (ku - 1)) from pk_mul 4 _, nI_add]
    -- the reference's store at the end
    have fin : ∀ υ : ra_S, (∀ c, c ≠ 86 → c ≠ 93 → c ≠ 101 → υ.1 c = τ1.1 c) → (∀ i, i ≠ 2 → i ≠ 43 → υ.1 86 i = σ.1 86 i) → υ.1 86 43 = nI (ku - 1) → (∀ i, i ≠ 5 * q + 1 → i ≠ 5 * q + 2 → υ.1 93 i = σ.1 93 i) → υ.1 93 (5 * q + 1) = σ.1 53 T → υ.1 93 (5 * q + 2) = σ.1 54 T → (∀ p, p ≠ q → υ.1 101 p = σ.1 101 p) → υ.1 101 q = σ.1 55 T → rz_R υ := by
      intro υ t1 t2 t3 t4 t5 t6 t7 t8
      have fr2 : ∀ c, ¬ ((48 ≤ c ∧ c ≤ 51) ∨ c = 86 ∨ c = 93 ∨ c = 101) → υ.1 c = σ.1 c := fun c hcn => by rw [t1 c (by omega) (by omega) (by omega), fr c (by omega)]
      have a49 : ∀ p, υ.1 49 p = if p = q then σ.1 53 T else σ.1 49 p := fun p => by
        rw [t1 49 (by decide) (by decide) (by decide), ← hτ]
        simp only [ra_ui_get, Nat.reduceEqDiff, false_and, if_false, true_and]
      have a50 : ∀ p, υ.1 50 p = if p = q then σ.1 54 T else σ.1 50 p := fun p => by
        rw [t1 50 (by decide) (by decide) (by decide), ← hτ]
        simp only [ra_ui_get, Nat.reduceEqDiff, false_and, if_false, true_and]
      have a51 : ∀ p, υ.1 51 p = if p = q then σ.1 55 T else σ.1 51 p := fun p => by
        rw [t1 51 (by decide) (by decide) (by decide), ← hτ]
        simp only [ra_ui_get, Nat.reduceEqDiff, false_and, if_false, true_and]
      refine rz_R_stage (σ := σ) (fun c k hP hS => ?_) (fun np' nb' nl' nw' ku' tp' hc' hp' hs' hu' => ?_) h
      · by_cases y : c = 86
        · subst y
          exact t2 k (by rintro rfl; cases hP) (by rintro rfl; cases hS)
        · by_cases w : c = 48
          · subst w
            have d3 : k ≠ 3 := by rintro rfl; cases hS
            have d4 : k ≠ 4 := by rintro rfl; cases hS
            rw [t1 48 (by decide) (by decide) (by decide), ← hτ]
            simp only [ra_ui_get, Nat.reduceEqDiff, false_and, if_false, true_and, d3, d4]
          · have d' : ¬ (49 ≤ c ∧ c ≤ 51) := fun x => by
              rcases (show c = 49 ∨ c = 50 ∨ c = 51 by omega) with rfl | rfl | rfl <;> cases hS
            have d1 : c ≠ 93 := by rintro rfl; cases hS
            have d2 : c ≠ 101 := by rintro rfl; cases hS
            rw [fr2 c (by omega)]
      · obtain ⟨ep, -, -, -⟩ := rz_np_uniq hc hc'
        subst ep
        refine ⟨ku - 1, T, ?_, ?_, ?_⟩
        · intro p hp
          have := hp' p hp
          rw [fr2 17 (by omega), fr2 18 (by omega), fr2 21 (by omega), fr2 22 (by omega), fr2 23 (by omega), fr2 24 (by omega), fr2 92 (by omega), fr2 94 (by omega), fr2 95 (by omega), t4 (5 * p) (by omega) (by omega), t4 (5 * p + 3) (by omega) (by omega), t4 (5 * p + 4) (by omega) (by omega)]
          exact this
        · intro p hp
          obtain ⟨a1, a2, a3, a4⟩ := hs' p hp
          rw [a49, a50, a51]
          by_cases y : p = q
          · subst y
            rw [if_pos rfl, if_pos rfl, if_pos rfl, t5, t6, t8]
            exact ⟨⟨rfl, b3⟩, ⟨rfl, b4⟩, rfl, b5⟩
          · rw [if_neg y, if_neg y, if_neg y, t4 _ (by omega) (by omega), t4 _ (by omega) (by omega), t7 p y]
            exact ⟨a1, a2, a3, a4⟩
        · refine ⟨?_, t3, by omega, ?_, hT20, fun j p => U (j + 1) p, fun p hp => ?_, fun j hj => ?_⟩
          · rw [t1 48 (by decide) (by decide) (by decide), ← hτ]; simp only [ra_ui_get, Nat.reduceEqDiff, false_and, if_false, and_self, if_true]
          · rw [t1 48 (by decide) (by decide) (by decide), ← hτ]; simp only [ra_ui_get, Nat.reduceEqDiff, false_and, and_false, if_false, and_self, if_true]
          · rw [a49, a50, a51]
            show U (0 + 1) p = _
            rw [b6 p hp]
            by_cases y : p = q
            · rw [if_pos y, if_pos y, if_pos y, if_pos y]
            · rw [if_neg y, if_neg y, if_neg y, if_neg y, U0 p hp]
          · have := US (j + 1) (by omega)
            rw [fr2 52 (by omega), fr2 53 (by omega), fr2 54 (by omega), fr2 55 (by omega), fr2 103 (by omega), show (T + 19 - j) % 20 = (tp + 19 - (j + 1)) % 20 by omega, show ku - 1 - 1 - j = ku - 1 - (j + 1) by omega]
            exact this
    have i1 : (4 : Int32) * nI (ku - 1) = nI (4 * (ku - 1)) := pk_mul 4 _
    have i2 : (4 : Int32) * nI (ku - 1) + (1 : Int32) = nI (4 * (ku - 1) + 1) := m4 1
    have i3 : (4 : Int32) * nI (ku - 1) + (2 : Int32) = nI (4 * (ku - 1) + 2) := m4 2
    have i4 : (4 : Int32) * nI (ku - 1) + (3 : Int32) = nI (4 * (ku - 1) + 3) := m4 3
    have ks : nI ku - (1 : Int32) = nI (ku - 1) := pk_sub (a := ku) (b := 1) (by omega)
    have kn : ¬ nI ku = (0 : Int32) := nI_ne0 (by omega) (by omega)
    have f103 := fr 103 (by omega)
    have f86 := fr 86 (by omega)
    rcases b7 with ⟨s1, s2, s3, s4⟩ | ⟨s1, s2, s3, s4⟩
    · refine ⟨nI (ku - 1), τ1, ra_ui (ra_ui (ra_ui τ1 86 2 0) 86 43 (nI (ku - 1))) 101 q (σ.1 55 T), e1, ?_, fin _ (fun c d1 d2 d3 => ?_) (fun i d1 d2 => ?_) ?_ (fun i d1 d2 => ?_) ?_ ?_ (fun p hp => ?_) ?_⟩
      · rw [e_202, f86, k2, if_neg kn, ks, i2, i3, i1, rz_ig (by omega) (by omega), rz_ig (by omega) (by omega), nI_clamp (by omega), nI_clamp (by omega), nI_clamp (by omega), f103, s1, if_pos rfl, rz_ig (by omega) (by omega), b2, rz_ig (by omega) (by omega), nI_clamp (by omega), s2]
      · rw [ra_ui_1 c d3, ra_ui_1 c d1, ra_ui_1 c d1]
      · rw [ra_ui_1 86 (by decide), ra_ui_get, if_neg (fun x => d2 x.2), ra_ui_get, if_neg (fun x => d1 x.2), f86]
      · rw [ra_ui_1 86 (by decide), ra_ui_get, if_pos ⟨rfl, rfl⟩]
      · rw [ra_ui_1 93 (by decide), ra_ui_1 93 (by decide), ra_ui_1 93 (by decide), fr 93 (by omega)]
      · rw [ra_ui_1 93 (by decide), ra_ui_1 93 (by decide), ra_ui_1 93 (by decide), fr 93 (by omega), ← s3, ← uq, (hs q hq).1.1]
      · rw [ra_ui_1 93 (by decide), ra_ui_1 93 (by decide), ra_ui_1 93 (by decide), fr 93 (by omega), ← s4, ← uq, (hs q hq).2.1.1]
      · rw [ra_ui_get, if_neg (fun x => hp x.2), ra_ui_1 101 (by decide), ra_ui_1 101 (by decide), fr 101 (by omega)]
      · rw [ra_ui_get, if_pos ⟨rfl, rfl⟩]
    · refine ⟨nI (ku - 1), τ1, ra_ui (ra_ui (ra_ui (ra_ui τ1 86 2 0) 86 43 (nI (ku - 1))) 93 (5 * q + 1) (σ.1 53 T)) 93 (5 * q + 2) (σ.1 54 T), e1, ?_, fin _ (fun c d1 d2 d3 => ?_) (fun i d1 d2 => ?_) ?_ (fun i d1 d2 => ?_) ?_ ?_ (fun p hp => ?_) ?_⟩
      · rw [e_202, f86, k2, if_neg kn, ks, i2, i3, i4, i1, rz_ig (by omega) (by omega), rz_ig (by omega) (by omega), nI_clamp (by omega), nI_clamp (by omega), nI_clamp (by omega), nI_clamp (by omega), f103, s1, if_neg (by decide), rz_ig (by omega) (by omega), b2, rz_mul5_1, rz_mul5_2, rz_ig (by omega) (by omega), rz_ig (by omega) (by omega), rz_ig (by omega) (by omega), nI_clamp (by omega), nI_clamp (by omega), s2, s3]
      · rw [ra_ui_1 c d2, ra_ui_1 c d2, ra_ui_1 c d1, ra_ui_1 c d1]
      · rw [ra_ui_1 86 (by decide), ra_ui_1 86 (by decide), ra_ui_get, if_neg (fun x => d2 x.2), ra_ui_get, if_neg (fun x => d1 x.2), f86]
      · rw [ra_ui_1 86 (by decide), ra_ui_1 86 (by decide), ra_ui_get, if_pos ⟨rfl, rfl⟩]
      · rw [ra_ui_get, if_neg (fun x => d2 x.2), ra_ui_get, if_neg (fun x => d1 x.2), ra_ui_1 93 (by decide), ra_ui_1 93 (by decide), fr 93 (by omega)]
      · rw [ra_ui_get, if_neg (fun x => by omega), ra_ui_get, if_pos ⟨rfl, rfl⟩]
      · rw [ra_ui_get, if_pos ⟨rfl, rfl⟩]
      · rw [ra_ui_1 101 (by decide), ra_ui_1 101 (by decide), ra_ui_1 101 (by decide), ra_ui_1 101 (by decide), fr 101 (by omega)]
      · rw [ra_ui_1 101 (by decide), ra_ui_1 101 (by decide), ra_ui_1 101 (by decide), ra_ui_1 101 (by decide), fr 101 (by omega), ← s4, ← uq, (hs q hq).2.2.1]
