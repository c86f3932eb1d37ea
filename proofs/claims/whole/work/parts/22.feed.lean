-- ===== feed =====
def rz_byte (w : Int32) (i : Nat) : Int32 := (w >>> (nI (24 - 8 * i) &&& 31)) &&& 255
theorem rz_byte_in (w : Int32) (i : Nat) : rz_in (rz_byte w i) 0 255 := by
  obtain ⟨j, hj, e⟩ := pk_andE (w >>> (nI (24 - 8 * i) &&& 31)) (m := 255) 8 (by decide)
  unfold rz_byte
  rw [e]
  unfold rz_in
  rw [nI_toInt (by omega)]
  omega
theorem rz_app1 {τ : ra_S} {t : Nat} (h : τ.1 2 2 = nI t) (ht : t < 800) (w : Int32) {i : Nat} (hi : i < 4) {v : Int32} (hv : nI (24 - 8 * i) = v) : ra_D (ra_lay, none, 99999, ra_m72) 3 [some (.ref 2), some (.int w), some (.int v)] [] τ = ra_D (ra_lay, none, 99999, ra_m72) 3 [some (.ref 2), some (.int w), some (.int (v + (-8 : Int32)))] [] (ra_ui (ra_ui τ 3 t (rz_byte w i)) 2 2 (nI (t + 1))) := by
  subst hv
  rw [e_72_3, if_neg (nI_pos (by omega)), h, if_pos (show nI t < (800 : Int32) from nI_lt (a := t) (b := 800) ht (by omega)), if_pos (rz_gd (N := 800) (by omega) (by omega)), nI_clamp (by omega), nI_1]
  rfl
theorem rz_append (σ : ra_S) (w : Int32) {t : Nat} (h : σ.1 2 2 = nI t) (ht : t + 4 ≤ 800) : ∃ τ : ra_S, ra_C 72 [.ref 2, .int w] σ = ra_V τ ∧ τ.1 2 2 = nI (t + 4) ∧ (∀ i, i < 4 → τ.1 3 (t + i) = rz_byte w i) ∧ (∀ i, ¬ (t ≤ i ∧ i < t + 4) → τ.1 3 i = σ.1 3 i) ∧ ∀ c k, c ≠ 3 → ¬ (c = 2 ∧ k = 2) → τ.1 c k = σ.1 c k := by
  refine ⟨ra_ui (ra_ui (ra_ui (ra_ui (ra_ui (ra_ui (ra_ui (ra_ui σ 3 t (rz_byte w 0)) 2 2 (nI (t + 1))) 3 (t + 1) (rz_byte w 1)) 2 2 (nI (t + 1 + 1))) 3 (t + 1 + 1) (rz_byte w 2)) 2 2 (nI (t + 1 + 1 + 1))) 3 (t + 1 + 1 + 1) (rz_byte w 3)) 2 2 (nI (t + 1 + 1 + 1 + 1)), ?_, ?_, ?_, ?_, ?_⟩
  · rw [e_72, rz_app1 h (by omega) w (i := 0) (by omega) (by decide), rz_app1 (t := t + 1) (by rw [ra_ui_get]; rfl) (by omega) w (i := 1) (by omega) (by decide), rz_app1 (t := t + 1 + 1) (by rw [ra_ui_get]; rfl) (by omega) w (i := 2) (by omega) (by decide), rz_app1 (t := t + 1 + 1 + 1) (by rw [ra_ui_get]; rfl) (by omega) w (i := 3) (by omega) (by decide), e_72_3, if_pos (by decide)]
  · rw [ra_ui_get]; rfl
  · intro i hi
    simp only [ra_ui_get, Nat.reduceEqDiff, false_and, true_and, if_false]
    rcases (show i = 0 ∨ i = 1 ∨ i = 2 ∨ i = 3 by omega) with rfl | rfl | rfl | rfl
    · rw [if_neg (by omega), if_neg (by omega), if_neg (by omega), if_pos (by omega)]
    · rw [if_neg (by omega), if_neg (by omega), if_pos (by omega)]
    · rw [if_neg (by omega), if_pos (by omega)]
    · rw [if_pos (by omega)]
  · intro i hi
    simp only [ra_ui_get, Nat.reduceEqDiff, false_and, true_and, if_false]
    rw [if_neg (by omega), if_neg (by omega), if_neg (by omega), if_neg (by omega)]
  · intro c k h1 h2
    simp only [ra_ui_get, h1, h2, false_and, if_false]
def rz_sel (a b c d e : Int32) (k : Nat) : Int32 := if k < 4 then a else if k < 8 then b else if k < 12 then c else if k < 16 then d else e
theorem rz_m_feed (σ : ra_S) (a b c d e : Int32) {t : Nat} (h : σ.1 86 1 = nI t) (ht : t + 20 ≤ 800) : ∃ τ : ra_S, ra_D (ra_lay, none, 99999, ra_m140) 23 [some (.ref 86), some (.int a), some (.int b), some (.int c), some (.int d), some (.int e), some (.int 0), none] [] σ = ra_I (nI (t + 20)) τ ∧ τ.1 86 1 = nI (t + 20) ∧ (∀ i, i < 20 → τ.1 87 (t + i) = rz_byte (rz_sel a b c d e i) (i % 4)) ∧ (∀ i, ¬ (t ≤ i ∧ i < t + 20) → τ.1 87 i = σ.1 87 i) ∧ ∀ c' k, c' ≠ 87 → ¬ (c' = 86 ∧ k = 1) → τ.1 c' k = σ.1 c' k := by
  have loop : ∀ d' k, k + d' = 20 → ∀ (υ : ra_S) (o7 : Option Value), υ.1 86 1 = nI t → (∀ i, i < k → υ.1 87 (t + i) = rz_byte (rz_sel a b c d e i) (i % 4)) → (∀ i, ¬ (t ≤ i ∧ i < t + 20) → υ.1 87 i = σ.1 87 i) → (∀ c' k, c' ≠ 87 → ¬ (c' = 86 ∧ k = 1) → υ.1 c' k = σ.1 c' k) →
      ∃ τ : ra_S, ra_D (ra_lay, none, 99999, ra_m140) 23 [some (.ref 86), some (.int a), some (.int b), some (.int c), some (.int d), some (.int e), some (.int (nI k)), o7] [] υ = ra_I (nI (t + 20)) τ ∧ τ.1 86 1 = nI (t + 20) ∧ (∀ i, i < 20 → τ.1 87 (t + i) = rz_byte (rz_sel a b c d e i) (i % 4)) ∧ (∀ i, ¬ (t ≤ i ∧ i < t + 20) → τ.1 87 i = σ.1 87 i) ∧ ∀ c' k, c' ≠ 87 → ¬ (c' = 86 ∧ k = 1) → τ.1 c' k = σ.1 c' k := by
    intro d'
    induction d' with
    | zero =>
      intro k hk υ o7 g1 g2 g3 g4
      have : k = 20 := by omega
      subst this
      refine ⟨ra_ui υ 86 1 (nI (t + 20)), ?_, by rw [ra_ui_get]; rfl, fun i hi => by rw [ra_ui_1 87 (by decide)]; exact g2 i hi, fun i hi => by rw [ra_ui_1 87 (by decide)]; exact g3 i hi, fun c' k h1 h2 => by rw [ra_ui_get, if_neg h2]; exact g4 c' k h1 h2⟩
      rw [e_140_23, if_neg (by decide), g1, show nI t + (20 : Int32) = nI (t + 20) from nI_add t 20]
    | succ d' ih =>
      intro k hk υ o7 g1 g2 g3 g4
      have lt : ∀ m : Nat, m ≤ 20 → (nI k < nI m ↔ k < m) := fun m hm => nI_ltI (by omega) (by omega)
      have e23 : ra_D (ra_lay, none, 99999, ra_m140) 23 [some (.ref 86), some (.int a), some (.int b), some (.int c), some (.int d), some (.int e), some (.int (nI k)), o7] [] υ = ra_D (ra_lay, none, 99999, ra_m140) 76 [some (.ref 86), some (.int a), some (.int b), some (.int c), some (.int d), some (.int e), some (.int (nI k)), o7] [.int (rz_sel a b c d e k)] υ := by
        rw [e_140_23, if_pos (show nI k < (20 : Int32) from (lt 20 (by omega)).mpr (by omega))]
        unfold rz_sel
        by_cases q1 : k < 4
        · rw [if_pos (show nI k < (4 : Int32) from (lt 4 (by omega)).mpr q1), if_pos q1]
        · rw [if_neg (show ¬ nI k < (4 : Int32) from fun z => q1 ((lt 4 (by omega)).mp z)), if_neg q1]
          by_cases q2 : k < 8
          · rw [if_pos (show nI k < (8 : Int32) from (lt 8 (by omega)).mpr q2), if_pos q2]
          · rw [if_neg (show ¬ nI k < (8 : Int32) from fun z => q2 ((lt 8 (by omega)).mp z)), if_neg q2]
            by_cases q3 : k < 12
            · rw [if_pos (show nI k < (12 : Int32) from (lt 12 (by omega)).mpr q3), if_pos q3]
            · rw [if_neg (show ¬ nI k < (12 : Int32) from fun z => q3 ((lt 12 (by omega)).mp z)), if_neg q3]
              by_cases q4 : k < 16
              · rw [if_pos (show nI k < (16 : Int32) from (lt 16 (by omega)).mpr q4), if_pos q4]
              · rw [if_neg (show ¬ nI k < (16 : Int32) from fun z => q4 ((lt 16 (by omega)).mp z)), if_neg q4]
      have hr : nI k - nI k / (4 : Int32) * (4 : Int32) = nI (k % 4) := pk_rem (a := k) (d := 4) (by omega) (by omega) (by omega)
      have hm : (8 : Int32) * nI (k % 4) = nI (8 * (k % 4)) := pk_mul 8 (k % 4)
      have hs : (24 : Int32) - nI (8 * (k % 4)) = nI (24 - 8 * (k % 4)) := pk_sub (a := 24) (b := 8 * (k % 4)) (by omega)
      rw [e23, e_140_76, g1, nI_add, if_pos (rz_gd (N := 800) (by omega) (by omega)), nI_clamp (by omega), hr, hm, hs, nI_1]
      refine ih (k + 1) (by omega) _ _ (by rw [ra_ui_1 86 (by decide)]; exact g1) (fun i hi => ?_) (fun i hi => ?_) (fun c' k' h1 h2 => ?_)
      · rw [ra_ui_get]
        by_cases q : i = k
        · subst q; rw [if_pos ⟨rfl, rfl⟩]; rfl
        · rw [if_neg (fun z => q (by omega))]; exact g2 i (by omega)
      · rw [ra_ui_get, if_neg (fun z => hi (by omega))]; exact g3 i hi
      · rw [ra_ui_get, if_neg (fun z => h1 z.1)]; exact g4 c' k' h1 h2
  exact loop 20 0 (by omega) σ none h (fun i hi => by omega) (fun i _ => rfl) (fun _ _ _ _ => rfl)

theorem rz_feed {σ : ra_S} (h : rz_R σ) (a b c d e : Int32) : rz_OI 77 140 [.int a, .int b, .int c, .int d, .int e] σ := by
  obtain ⟨np, nb, nl, nw, ku, tp, nn, tc, -, -, -, -, -, -, -, -, ht, -⟩ := id h
  obtain ⟨t1, t2, t3, t4, t5⟩ := id ht
  by_cases full : 800 < tc + 20
  · refine ⟨-1, σ, ra_ui σ 86 2 0, ?_, ?_, rz_R_ui rfl h⟩
    · rw [e_77, e_71, t1, show nI tc + (20 : Int32) = nI (tc + 20) from nI_add tc 20, if_pos (show (800 : Int32) < nI (tc + 20) from nI_lt (a := 800) (b := tc + 20) full (by omega)), ra_kI, if_pos rfl]
    · rw [e_140, t2, show nI tc + (20 : Int32) = nI (tc + 20) from nI_add tc 20, if_pos (show (800 : Int32) < nI (tc + 20) from nI_lt (a := 800) (b := tc + 20) full (by omega))]
  · obtain ⟨u1, x1, p1, q1, r1, s1⟩ := rz_append σ a t1 (by omega)
    obtain ⟨u2, x2, p2, q2, r2, s2⟩ := rz_append u1 b p1 (by omega)
    obtain ⟨u3, x3, p3, q3, r3, s3⟩ := rz_append u2 c p2 (by omega)
    obtain ⟨u4, x4, p4, q4, r4, s4⟩ := rz_append u3 d p3 (by omega)
    obtain ⟨u5, x5, p5, q5, r5, s5⟩ := rz_append u4 e p4 (by omega)
    have f : ∀ c k, c ≠ 3 → ¬ (c = 2 ∧ k = 2) → u5.1 c k = σ.1 c k := fun c k g1 g2 => by
      rw [s5 c k g1 g2, s4 c k g1 g2, s3 c k g1 g2, s2 c k g1 g2, s1 c k g1 g2]
    have fb : ∀ i, i < 20 → u5.1 3 (tc + i) = rz_byte (rz_sel a b c d e i) (i % 4) := by
      intro i hi
      unfold rz_sel
      by_cases z1 : i < 4
      · rw [if_pos z1, r5 _ (by omega), r4 _ (by omega), r3 _ (by omega), r2 _ (by omega), q1 i z1, Nat.mod_eq_of_lt z1]
      · rw [if_neg z1]
        by_cases z2 : i < 8
        · rw [if_pos z2, r5 _ (by omega), r4 _ (by omega), r3 _ (by omega), show tc + i = tc + 4 + i % 4 by omega, q2 _ (by omega)]
        · rw [if_neg z2]
          by_cases z3 : i < 12
          · rw [if_pos z3, r5 _ (by omega), r4 _ (by omega), show tc + i = tc + 4 + 4 + i % 4 by omega, q3 _ (by omega)]
          · rw [if_neg z3]
            by_cases z4 : i < 16
            · rw [if_pos z4, r5 _ (by omega), show tc + i = tc + 4 + 4 + 4 + i % 4 by omega, q4 _ (by omega)]
            · rw [if_neg z4, show tc + i = tc + 4 + 4 + 4 + 4 + i % 4 by omega, q5 _ (by omega)]
    have fo : ∀ i, ¬ (tc ≤ i ∧ i < tc + 20) → u5.1 3 i = σ.1 3 i := fun i hi => by
      rw [r5 _ (by omega), r4 _ (by omega), r3 _ (by omega), r2 _ (by omega), r1 _ (by omega)]
    have k1 : (ra_ui u5 86 2 0).1 86 1 = nI tc := by rw [ra_ui_get, if_neg (by omega), f 86 1 (by decide) (by decide)]; exact t2
    obtain ⟨v, y, m1, m2, m3, m4⟩ := rz_m_feed (ra_ui u5 86 2 0) a b c d e k1 (by omega)
    refine ⟨nI (tc + 20), u5, v, ?_, ?_, ?_⟩
    · rw [e_77, e_71, t1, show nI tc + (20 : Int32) = nI (tc + 20) from nI_add tc 20, if_neg (show ¬ (800 : Int32) < nI (tc + 20) from nI_nlt (a := 800) (b := tc + 20) (by omega) (by omega)), ra_kI, if_neg (by decide), x1, ra_kV, x2, ra_kV, x3, ra_kV, x4, ra_kV, x5, ra_kV, p5]
    · rw [e_140, f 86 1 (by decide) (by decide), t2, show nI tc + (20 : Int32) = nI (tc + 20) from nI_add tc 20, if_neg (show ¬ (800 : Int32) < nI (tc + 20) from nI_nlt (a := 800) (b := tc + 20) (by omega) (by omega))]
      exact y
    · refine rz_R_tape (σ := σ) (τ := v) (fun c k hP hN => ?_) (fun tc' ht' => ⟨tc + 20, ?_⟩) h
      · rw [m4 c k (fun z => by subst z; cases hN) (fun z => by obtain ⟨rfl, rfl⟩ := z; cases hN), ra_ui_get, if_neg (fun z => by obtain ⟨rfl, rfl⟩ := z; cases hP)]
        exact f c k (fun z => by subst z; cases hN) (fun z => by obtain ⟨rfl, rfl⟩ := z; cases hN)
      · have g : ∀ c k, c ≠ 87 → c ≠ 86 → v.1 c k = u5.1 c k := fun c k g1 g2 => by rw [m4 c k g1 (fun z => g2 z.1), ra_ui_1 c g2]
        have g6 : ∀ k, k ≠ 1 → k ≠ 2 → v.1 86 k = σ.1 86 k := fun k g1 g2 => by rw [m4 86 k (by decide) (fun z => g1 z.2), ra_ui_get, if_neg (fun z => g2 z.2), f 86 k (by decide) (fun z => absurd z.1 (by decide))]
        obtain ⟨w1, w2, w3, w4⟩ := t5
        refine ⟨by rw [g 2 2 (by decide) (by decide), p5], m1, by omega, fun i hi => ?_, ?_, ?_, fun i hi => ?_, fun i hi => ?_⟩
        · rw [g 3 i (by decide) (by decide)]
          by_cases z : i < tc
          · rw [fo i (by omega), m3 i (by omega), ra_ui_1 87 (by decide), f 87 i (by decide) (fun z => absurd z.1 (by decide))]
            exact t4 i z
          · have e1 := fb (i - tc) (by omega)
            have e2 := m2 (i - tc) (by omega)
            rw [show tc + (i - tc) = i by omega] at e1 e2
            rw [e1, e2]
            exact ⟨rfl, rz_byte_in _ _⟩
        · rw [g 1 2 (by decide) (by decide), g6 4 (by decide) (by decide), f 1 2 (by decide) (by decide)]; exact w1
        · rw [g 1 3 (by decide) (by decide), g6 5 (by decide) (by decide), f 1 3 (by decide) (by decide)]; exact w2
        · rw [g 4 i (by decide) (by decide), f 4 i (by decide) (fun z => absurd z.1 (by decide))]; exact w3 i hi
        · rw [g 88 i (by decide) (by decide), f 88 i (by decide) (fun z => absurd z.1 (by decide))]; exact w4 i hi
