-- ===== feed =====
def rz_byte (w : Int32) (i : Nat) : Int32 := (w >>> (nI (24 - 8 * i) &&& 31)) &&& 255
theorem rz_byte_in (w : Int32) (i : Nat) : rz_in (rz_byte w i) 0 255 := by
  obtain ⟨j, hj, e⟩ := pk_andE (w >>> (nI (24 - 8 * i) &&& 31)) (m := 255) 8 (by decide)
  unfold rz_byte
  rw [e]
  unfold rz_in
  rw [nI_toInt (by omega)]
  omega
theorem rz_app1 {τ : ra_S} {t : Nat} (h : τ.1 2 2 = nI t) (ht : t < 800) (w : Int32) {i : Nat} (hi : i < 4) {v : Int32} (hv : nI (24 - 8 * i) = v) : ra_D (ra_lay, none, 99999, ra_m72) 3 [some (.ref 2), some (.int w), some (.int v)] [] τ = ra_D (ra_lay, none, 99999, ra_m72) 3 [some (.ref 2), some (.int w), some (.int (v + (-8 : Int32)))] [] (ra_ui (ra_ui τ 3 t (rz_byte w i)) 2 2 (nI (t + 1))) := by
  subst hv
  rw [e_72_3, if_neg (nI_pos (by omega)), h, if_pos (show nI t < (800 : Int32) from nI_lt (a := t) (b := 800) ht (by omega)), if_pos (rz_gd (N := 800) (by omega) (by omega)), nI_clamp (by omega), nI_1]
  rfl
theorem rz_append (σ : ra_S) (w : Int32) {t : Nat} (h : σ.1 2 2 = nI t) (ht : t + 4 ≤ 800) : ∃ τ : ra_S, ra_C 72 [.ref 2, .int w] σ = ra_V τ ∧ τ.1 2 2 = nI (t + 4) ∧ (∀ i, i < 4 → τ.1 3 (t + i) = rz_byte w i) ∧ (∀ i, ¬ (t ≤ i ∧ i < t + 4) → τ.1 3 i = σ.1 3 i) ∧ ∀ c k, c ≠ 3 → ¬ (c = 2 ∧ k = 2) → τ.1 c k = σ.1 c k := by
  refine ⟨ra_ui (ra_ui (ra_ui (ra_ui (ra_ui (ra_ui (ra_ui (ra_ui σ 3 t (rz_byte w 0)) 2 2 (nI (t + 1))) 3 (t + 1) (rz_byte w 1)) 2 2 (nI (t + 1 + 1))) 3 (t + 1 + 1) (rz_byte w 2)) 2 2 (nI (t + 1 + 1 + 1))) 3 (t + 1 + 1 + 1) (rz_byte w 3)) 2 2 (nI (t + 1 + 1 + 1 + 1)), ?_, ?_, ?_, ?_, ?_⟩
  · rw [e_72, rz_app1 h (by omega) w (i := 0) (by omega) (by decide), rz_app1 (t := t + 1) (by rw [ra_ui_get]; rfl) (by omega) w (i := 1) (by omega) (by decide), rz_app1 (t := t + 1 + 1) (by rw [ra_ui_get]; rfl) (by omega) w (i := 2) (by omega) (by decide), rz_app1 (t := t + 1 + 1 + 1) (by rw [ra_ui_get]; rfl) (by omega) w (i := 3) (by omega) (by decide), e_72_3, if_pos (by decide)]
  · rw [ra_ui_get]; rfl
  · intro i hi
    simp only [ra_ui_get, Nat.reduceEqDiff, false_and, true_and, if_false]
    rcases (show i = 0 ∨ i = 1 ∨ i = 2 ∨ i = 3 by omega) with rfl | rfl | rfl | rfl
    · rw [if_neg (by omega), if_neg (by omega), if_neg (by omega), if_pos (by omega)]
    · rw [if_neg (by omega), if_neg (by omega), if_pos (by omega)]
    · rw [if_neg (by omega), if_pos (by omega)]
    · rw [if_pos (by omega)]
  · intro i hi
    simp only [ra_ui_get, Nat.reduceEqDiff, false_and, true_and, if_false]
    rw [if_neg (by omega), if_neg (by omega), if_neg (by omega), if_neg (by omega)]
  · intro c k h1 h2
    simp only [ra_ui_get, h1, h2, false_and, if_false]
def rz_sel (a b c d e : Int32) (k : Nat) : Int32 := if k < 4 then a else if k < 8 then b else if k < 12 then c else if k < 16 then d else e
theorem rz_m_feed (σ : ra_S) (a b c d e : Int32) {t : Nat} (h : σ.1 86 1 = nI t) (ht : t + 20 ≤ 800) : ∃ τ : ra_S, ra_D (ra_lay, none, 99999, ra_m140) 23 [some (.ref 86), some (.int a), some (.int b), some (.int c), some (.int d), some (.int e), some (.int 0), none] [] σ = ra_I (nI (t + 20)) τ ∧ τ.1 86 1 = nI (t + 20) ∧ (∀ i, i < 20 → τ.1 87 (t + i) = rz_byte (rz_sel a b c d e i) (i % 4)) ∧ (∀ i, ¬ (t ≤ i ∧ i < t + 20) → τ.1 87 i = σ.1 87 i) ∧ ∀ c' k, c' ≠ 87 → ¬ (c' = 86 ∧ k = 1) → τ.1 c' k = σ.1 c' k := by
  have loop : ∀ d' k, k + d' = 20 → ∀ (υ : ra_S) (o7 : Option Value), υ.1 86 1 = nI t → (∀ i, i < k → υ.1 87 (t + i) = rz_byte (rz_sel a b c d e i) (i % 4)) → (∀ i, ¬ (t ≤ i ∧ i < t + 20) → υ.1 87 i = σ.1 87 i) → (∀ c' k, c' ≠ 87 → ¬ (c' = 86 ∧ k = 1) → υ.1 c' k = σ.1 c' k) →
      ∃ τ : ra_S, ra_D (ra_lay, none, 99999, ra_m140) 23 [some (.ref 86), some (.int a), some (.int b), some (.int c), some (.int d), some (.int e), some (.int (nI k)), o7] [] υ = ra_I (nI (t + 20)) τ ∧ τ.1 86 1 = nI (t + 20) ∧ (∀ i, i < 20 → τ.1 87 (t + i) = rz_byte (rz_sel a b c d e i) (i % 4)) ∧ (∀ i, ¬ (t ≤ i ∧ i < t + 20) → τ.1 87 i = σ.1 87 i) ∧ ∀ c' k, c' ≠ 87 → ¬ (c' = 86 ∧ k = 1) → τ.1 c' k = σ.1 c' k := by
    intro d'
    induction d' with
    | zero =>
      intro k hk υ o7 g1 g2 g3 g4
      have : k = 20 := by omega
      subst this
      refine ⟨ra_ui υ 86 1 (nI (t + 20)), ?_, by rw [ra_ui_get]; rfl, fun i hi => by rw [ra_ui_1 87 (by decide)]; exact g2 i hi, fun i hi => by rw [ra_ui_1 87 (by decide)]; exact g3 i hi, fun c' k h1 h2 => by rw [ra_ui_get, if_neg h2]; exact g4 c' k h1 h2⟩
      rw [e_140_23, if_neg (by decide), g1, show nI t + (20 : Int32) = nI (t + 20) from nI_add t 20]
    | succ d' ih =>
      intro k hk υ o7 g1 g2 g3 g4
      have lt : ∀ m : Nat, m ≤ 20 → (nI k < nI m ↔ k < m) := fun m hm => nI_ltI (by omega) (by omega)
      have e23 : ra_D (ra_lay, none, 99999, ra_m140) 23 [some (.ref 86), some (.int a), some (.int b), some (.int c), some (.int d), some (.int e), some (.int (nI k)), o7] [] υ = ra_D (ra_lay, none, 99999, ra_m140) 76 [some (.ref 86), some (.int a), some (.int b), some (.int c), some (.int d), some (.int e), some (.int (nI k)), o7] [.int (rz_sel a b c d e k)] υ := by
        rw [e_140_23, if_pos (show nI k < (20 : Int32) from (lt 20 (by omega)).mpr (by omega))]
        unfold rz_sel
        by_cases q1 : k < 4
        · rw [if_pos (show nI k < (4 : Int32) from (lt 4 (by omega)).mpr q1), if_pos q1]
        · rw [if_neg (show ¬ nI k < (4 : Int32) from fun z => q1 ((lt 4 (by omega)).mp z)), if_neg q1]
          by_cases q2 : k < 8
          · rw [if_pos (show nI k < (8 : Int32) from (lt 8 (by omega)).mpr q2), if_pos q2]
          · rw [if_neg (show ¬ nI k < (8 : Int32) from fun z => q2 ((lt 8 (by omega)).mp z)), if_neg q2]
            by_cases q3 : k < 12
            · rw [if_pos (show nI k < (12 : Int32) from (lt 12 (by omega)).mpr q3), if_pos q3]
            · rw [if_neg (show ¬ nI k < (12 : Int32) from fun z => q3 ((lt 12 (by omega)).mp z)), if_neg q3]
              by_cases q4 : k < 16
              · rw [if_pos (show nI k < (16 : Int32) from (lt 16 (by omega)).mpr q4), if_pos q4]
              · rw [if_neg (show ¬ nI k < (16 : Int32) from fun z => q4 ((lt 16 (by omega)).mp z)), if_neg q4]
      have hr : nI k - nI k / (4 : Int32) * (4 : Int32) = nI (k % 4) := pk_rem (a := k) (d := 4) (by omega) (by omega) (by omega)
      have hm : (8 : Int32) * nI (k % 4) = nI (8 * (k % 4)) := pk_mul 8 (k % 4)
      have hs : (24 : Int32) - nI (8 * (k % 4)) = nI (24 - 8 * (k % 4)) := pk_sub (a := 24) (b := 8 * (k % 4)) (by omega)
      rw [e23, e_140_76, g1, nI_add, if_pos (rz_gd (N := 800) (by omega) (by omega)), nI_clamp (by omega), hr, hm, hs, nI_1]
      refine ih (k + 1) (by omega) _ _ (by rw [ra_ui_1 86 (by decide)]; exact g1) (fun i hi => ?_) (fun i hi => ?_) (fun c' k' h1 h2 => ?_)
      · rw [ra_ui_get]
        by_cases q : i = k
        · subst q; rw [if_pos ⟨rfl, rfl⟩]; rfl
        · rw [if_neg (fun z => q (by omega))]; exact g2 i (by omega)
      · rw [ra_ui_get, if_neg (fun z => hi (by omega))]; exact g3 i hi
      · rw [ra_ui_get, if_neg (fun z => h1 z.1)]; exact g4 c' k' h1 h2
  exact loop 20 0 (by omega) σ none h (fun i hi => by omega) (fun i _ => rfl) (fun _ _ _ _ => rfl)
