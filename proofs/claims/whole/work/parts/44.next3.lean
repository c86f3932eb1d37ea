theorem rz_fl_to1 {p : Nat} {t : Int32} {σ τ : ra_S} (h : rz_fl p t σ τ) (h93 : τ.1 93 (5 * p) = σ.1 93 (5 * p)) : rz_ft σ (ra_ui τ 101 p (σ.1 101 p)) := by
  obtain ⟨h1, h2, h3, h4, h5⟩ := h
  refine ⟨fun c hc => ?_, fun k hk => by rw [ra_ui_1 86 (by decide)]; exact h2 k hk⟩
  by_cases z : c = 101
  · subst z
    funext q
    rw [ra_ui_get]
    by_cases y : q = p
    · rw [if_pos ⟨rfl, y⟩, y]
    · rw [if_neg (fun x => y x.2)]; exact h4 q y
  · rw [ra_ui_1 c z]
    by_cases y : c = 93
    · subst y
      funext i
      by_cases x : i = 5 * p
      · rw [x, h93]
      · exact h3 i x
    · exact h1 c (by omega)
set_option maxHeartbeats 2000000 in
theorem rz_next {σ : ra_S} (h : rz_R σ) (a d w : Int32) : rz_OI 116 231 [.int a, .int d, .int w] σ := by
  obtain ⟨np, nb, nl, nw, len, nn, hB, hn⟩ := rz_base_n h
  have f0 := rz_ft.rf σ
  have f0' := f0.u2 (x := 0)
  have c3 := hB.1.1.2.2
  have c9 := hB.1.2.2.1.2.2
  by_cases v1 : 0 ≤ a.toInt ∧ a.toInt < np
  · by_cases v2 : 0 ≤ d.toInt ∧ d.toInt ≤ 9999
    · by_cases v3 : 0 ≤ w.toInt ∧ w.toInt ≤ 1
      · obtain ⟨p, hp, rfl⟩ := rz_nat (by omega) v1
        obtain ⟨υ, e1, f1⟩ := rz_c_fit hB hn f0 hp v2
        obtain ⟨P, hP⟩ : ∃ P : Nat → Bool, P = rz_FP σ len np nw nn p d.toInt := ⟨_, rfl⟩
        rw [← hP, rz_ib_pn P nl (by omega)] at e1
        have plt := rz_pn_lt P nl
        have p26 : 2 ^ nl ≤ 64 := Nat.pow_le_pow_right (n := 2) (by decide) c9
        have bm := rz_bcmo ⟨rz_pn P nl, by omega⟩
        dsimp only at bm
        by_cases few : rz_bc (nI (rz_pn P nl)) < 2
        · obtain ⟨υ2, e2, f2⟩ := rz_m_fit hB hn (f1.u2 (x := 0)) hp v2
          rw [← hP, rz_ib_pn P nl (by omega)] at e2
          refine ⟨-1, υ, υ2, ?_, ?_, rz_R_ft f2 h⟩
          · rw [e_116, rz_kPc hB f0, ra_kI, rz_t v1, ra_c_isOff, ra_kI, rz_t v2, rz_c_in _ _ 0 1 rfl rfl, ra_kI, rz_t v3, e1, ra_kI, rz_c_bc, ra_kI, if_pos few]
          · rw [e_231, rz_kPm hB f1.u2, ra_kI, rz_t v1, rz_m_in _ _ 0 9999 rfl rfl, ra_kI, rz_t v2, rz_m_in _ _ 0 1 rfl rfl, ra_kI, rz_t v3, e2, ra_kI, rz_m_mo, ra_kI, bm, if_pos few]
        · obtain ⟨g, hg⟩ : ∃ g : Nat → Nat, g = fun k => rz_mxn (rz_gf P (rz_Rk σ len np nw p k) nb) nl := ⟨_, rfl⟩
          have gle : ∀ k, g k ≤ 6 := fun k => by
            rw [hg]
            have := rz_gf_le P (rz_Rk σ len np nw p k) nb nl
            dsimp only
            omega
          have bl := fun k => rz_bst_le (fun k => (g k : Int)) k
          have st := fun k => rz_bst_st (fun k => (g k : Int)) k
          have lc : ∀ m k, k + m = 4 → ∀ (τ : ra_S) (o2 o8 : Option Value) (v5 v6 : Int32), rz_ft σ τ → ((k = 0 ∧ v6 = 7) ∨ (k ≠ 0 ∧ v5 = nI (2 ^ rz_bst (fun k => (g k : Int)) (k - 1)) ∧ v6 = nI (g (rz_bst (fun k => (g k : Int)) (k - 1))))) → ∃ υ3 : ra_S, ra_D (ra_lay, none, 99999, ra_m116) 55 [some (.ref 0), some (.int (nI p)), o2, some (.int w), some (.int (nI (rz_pn P nl))), some (.int v5), some (.int v6), some (.int (nI (2 ^ k))), o8] [] τ = ra_I (if w = 0 then nI (2 ^ rz_bst (fun k => (g k : Int)) 3) else nI (g (rz_bst (fun k => (g k : Int)) 3))) υ3 ∧ rz_ft σ υ3 := by
            intro m
            induction m with
            | zero =>
              intro k hk τ o2 o8 v5 v6 hf hv
              have : k = 4 := by omega
              subst this
              rcases hv with ⟨q, -⟩ | ⟨-, rfl, rfl⟩
              · omega
              · rw [e_116_55, if_pos (by decide)]
                refine ⟨τ, ?_, hf⟩
                split <;> rfl
            | succ m ih =>
              intro k hk τ o2 o8 v5 v6 hf hv
              have k8 := rz_p24 (k := k) (by omega)
              obtain ⟨υ3, e3, f3⟩ := rz_c_gg hB hf hp (k := k) (by omega) P
              rw [show rz_mxn (rz_gf P (rz_Rk σ len np nw p k) nb) nl = g k by rw [hg]] at e3
              have gk := gle k
              have nx := ih (k + 1) (by omega) υ3 o2
              rw [show k + 1 - 1 = k by omega] at nx
              rw [e_116_55, if_neg (show ¬ (8 : Int32) < nI (2 ^ k) from nI_nlt (a := 8) k8 (by omega)), e3, ra_kI, show nI (2 ^ k) * (2 : Int32) = nI (2 ^ (k + 1)) from pk_mul _ 2]
              have s := st k
              rcases hv with ⟨rfl, rfl⟩ | ⟨hk0, rfl, rfl⟩
              · rw [if_pos (show nI (g 0) < (7 : Int32) from nI_lt (b := 7) (by omega) (by omega))]
                exact nx _ _ _ f3 (Or.inr ⟨by omega, rfl, rfl⟩)
              · have gb := gle (rz_bst (fun k => (g k : Int)) (k - 1))
                by_cases y : g k < g (rz_bst (fun k => (g k : Int)) (k - 1))
                · rw [if_pos (by omega)] at s
                  rw [rz_il (by omega) y]
                  exact nx _ _ _ f3 (Or.inr ⟨by omega, by rw [← s], by rw [← s]⟩)
                · rw [if_neg (by omega)] at s
                  rw [rz_inl (by omega) (by omega)]
                  exact nx _ _ _ f3 (Or.inr ⟨by omega, by rw [← s], by rw [← s]⟩)
          obtain ⟨υ3, e3, f3⟩ := lc 4 0 (by omega) υ (some (.int d)) none 0 7 f1 (Or.inl ⟨rfl, rfl⟩)
          obtain ⟨υ2, e2, f2⟩ := rz_m_fit hB hn (f3.u2 (x := 0)) hp v2
          rw [← hP, rz_ib_pn P nl (by omega)] at e2
          have lm : ∀ m k, k + m = 4 → ∀ (τ : ra_S) (t : Int32) (o2 o9 : Option Value) (v6 v7 : Int32), rz_fl p t σ τ → τ.1 93 (5 * p) = σ.1 93 (5 * p) → ((k = 0 ∧ v6 = -1) ∨ (k ≠ 0 ∧ v6 = nI (rz_bst (fun k => (g k : Int)) (k - 1)) ∧ v7 = nI (g (rz_bst (fun k => (g k : Int)) (k - 1))))) → ∃ υ4 : ra_S, ra_D (ra_lay, none, 99999, ra_m231) 71 [some (.ref 86), some (.int (nI p)), o2, some (.int w), some (.int (nI (rz_pn P nl))), some (.int (σ.1 101 p)), some (.int v6), some (.int v7), some (.int (nI k)), o9] [] τ = ra_I (if w = 0 then nI (2 ^ rz_bst (fun k => (g k : Int)) 3) else nI (g (rz_bst (fun k => (g k : Int)) 3))) υ4 ∧ rz_ft σ υ4 := by
            intro m
            induction m with
            | zero =>
              intro k hk τ t o2 o9 v6 v7 hf h93 hv
              have : k = 4 := by omega
              subst this
              rcases hv with ⟨q, -⟩ | ⟨-, rfl, rfl⟩
              · omega
              · have b3 := bl 3
                rw [e_231_71, if_neg (by decide), rz_ig (by omega) (by omega), nI_clamp (by omega), show (4 - 1 : Nat) = 3 from rfl, rz_sh8 ⟨rz_bst (fun k => (g k : Int)) 3, by omega⟩]
                refine ⟨_, ?_, rz_fl_to1 hf h93⟩
                split <;> rfl
            | succ m ih =>
              intro k hk τ t o2 o9 v6 v7 hf h93 hv
              have sh := rz_sh8 ⟨k, by omega⟩
              dsimp only at sh
              have hf2 : rz_fl p (σ.1 101 p ||| nI (2 ^ k)) σ (ra_ui τ 101 p (σ.1 101 p ||| nI (2 ^ k))) := ⟨fun c hc => by rw [ra_ui_1 c (by omega)]; exact hf.1 c hc, fun i hi => by rw [ra_ui_1 86 (by decide)]; exact hf.2.1 i hi, fun i hi => by rw [ra_ui_1 93 (by decide)]; exact hf.2.2.1 i hi, fun q hq => by rw [ra_ui_get, if_neg (fun y => hq y.2)]; exact hf.2.2.2.1 q hq, by rw [ra_ui_get, if_pos ⟨rfl, rfl⟩]⟩
              obtain ⟨υ4, e4, f4, h4⟩ := rz_m_gg hB hf2 (by rw [ra_ui_1 93 (by decide)]; exact h93) hp (k := k) (by omega) P
              rw [show rz_mxn (rz_gf P (rz_Rk σ len np nw p k) nb) nl = g k by rw [hg]] at e4
              have gk := gle k
              have nx := ih (k + 1) (by omega) υ4 (σ.1 101 p ||| nI (2 ^ k)) o2 (some (.int (nI (g k))))
              rw [show k + 1 - 1 = k by omega] at nx
              rw [e_231_71, show (4 : Int32) = nI 4 from rfl, rz_il (by omega) (by omega), rz_ig (by omega) (by omega), nI_clamp (by omega), sh, e4, ra_kI, nI_1]
              have s := st k
              rcases hv with ⟨rfl, rfl⟩ | ⟨hk0, rfl, rfl⟩
              · rw [if_pos (by decide), e_231_114, nI_1]
                exact nx _ _ f4 h4 (Or.inr ⟨by omega, rfl, rfl⟩)
              · have gb := gle (rz_bst (fun k => (g k : Int)) (k - 1))
                have bb := bl (k - 1)
                rw [if_neg (nI_pos (by omega))]
                by_cases y : g k < g (rz_bst (fun k => (g k : Int)) (k - 1))
                · rw [if_pos (by omega)] at s
                  rw [rz_il (by omega) y, e_231_114, nI_1]
                  exact nx _ _ f4 h4 (Or.inr ⟨by omega, by rw [← s], by rw [← s]⟩)
                · rw [if_neg (by omega)] at s
                  rw [rz_inl (by omega) (by omega)]
                  exact nx _ _ f4 h4 (Or.inr ⟨by omega, by rw [← s], by rw [← s]⟩)
          obtain ⟨υ4, e4, f4⟩ := lm 4 0 (by omega) υ2 (σ.1 101 p) (some (.int d)) none (-1) 0 (rz_fl_of f2) (by rw [f2.1 93 (by omega)]) (Or.inl ⟨rfl, rfl⟩)
          refine ⟨if w = 0 then nI (2 ^ rz_bst (fun k => (g k : Int)) 3) else nI (g (rz_bst (fun k => (g k : Int)) 3)), υ3, υ4, ?_, ?_, rz_R_ft f4 h⟩
          · rw [e_116, rz_kPc hB f0, ra_kI, rz_t v1, ra_c_isOff, ra_kI, rz_t v2, rz_c_in _ _ 0 1 rfl rfl, ra_kI, rz_t v3, e1, ra_kI, rz_c_bc, ra_kI, if_neg few]
            exact e3
          · rw [e_231, rz_kPm hB f3.u2, ra_kI, rz_t v1, rz_m_in _ _ 0 9999 rfl rfl, ra_kI, rz_t v2, rz_m_in _ _ 0 1 rfl rfl, ra_kI, rz_t v3, e2, ra_kI, rz_m_mo, ra_kI, bm, if_neg few, rz_ig (by omega) (by omega), nI_clamp (by omega), f2.1 101 (by omega)]
            exact e4
      · refine ⟨-1, σ, ra_ui σ 86 2 0, ?_, ?_, rz_R_ft f0' h⟩
        · rw [e_116, rz_kPc hB f0, ra_kI, rz_t v1, ra_c_isOff, ra_kI, rz_t v2, rz_c_in _ _ 0 1 rfl rfl, ra_kI, rz_f v3]
        · rw [e_231, rz_kPm hB f0', ra_kI, rz_t v1, rz_m_in _ _ 0 9999 rfl rfl, ra_kI, rz_t v2, rz_m_in _ _ 0 1 rfl rfl, ra_kI, rz_f v3]
    · refine ⟨-1, σ, ra_ui σ 86 2 0, ?_, ?_, rz_R_ft f0' h⟩
      · rw [e_116, rz_kPc hB f0, ra_kI, rz_t v1, ra_c_isOff, ra_kI, rz_f v2]
      · rw [e_231, rz_kPm hB f0', ra_kI, rz_t v1, rz_m_in _ _ 0 9999 rfl rfl, ra_kI, rz_f v2]
  · refine ⟨-1, σ, ra_ui σ 86 2 0, ?_, ?_, rz_R_ft f0' h⟩
    · rw [e_116, rz_kPc hB f0, ra_kI, rz_f v1]
    · rw [e_231, rz_kPm hB f0', ra_kI, rz_f v1]
