-- ===== chance =====
theorem rz_sd_add (s a : Nat) : ∀ b, rz_sd (rz_sd s a) b = rz_sd s (a + b)
  | 0 => rfl
  | b + 1 => by
    show (rz_sd (rz_sd s a) b * 1103515245 + 12345) % 2147483648 = (rz_sd s (a + b) * 1103515245 + 12345) % 2147483648
    rw [rz_sd_add s a b]
noncomputable abbrev rz_ED (σ : ra_S) (len : Nat → Nat) (np nw s j : Nat) : rz_En := rz_mkE σ len (rz_lw0 σ) (rz_X0 σ) (rz_Y0 σ) (σ.1 101) (rz_S0 σ) (rz_H0 σ) false (rz_exf σ np nw 0 0 0 s j)
def rz_dc (V : Nat → Bool) : Nat → Nat
  | 0 => 0
  | d + 1 => rz_dc V d + (if V d = true then 1 else 0)
theorem rz_dc_le (V : Nat → Bool) : ∀ d, rz_dc V d ≤ d
  | 0 => Nat.le_refl _
  | d + 1 => by
    have := rz_dc_le V d
    rw [rz_dc]
    split <;> omega
set_option maxHeartbeats 2000000 in
theorem rz_draws {σ : ra_S} (h : rz_R σ) (a m c e : Int32) : rz_OI 129 244 [.int a, .int m, .int c, .int e] σ := by
  obtain ⟨np, nb, nl, nw, len, hB⟩ := rz_base_of h
  have f0 := rz_ft.rf σ
  have f0' := f0.u2 (x := 0)
  obtain ⟨⟨c1, c2, c3⟩, ⟨c4, c5, c6⟩, -⟩ := id hB.1
  by_cases z : nb = 0
  · subst z
    refine ⟨-1, σ, ra_ui σ 86 2 0, ?_, ?_, rz_R_ft f0' h⟩
    · rw [e_129, c4]; rfl
    · rw [e_244, c5]; rfl
  have nz : ¬ nI nb = 0 := nI_ne0 (by omega) (by omega)
  by_cases v1 : a < 0
  · refine ⟨-1, σ, ra_ui σ 86 2 0, ?_, ?_, rz_R_ft f0' h⟩
    · rw [e_129, c4, if_neg nz, if_pos v1]
    · rw [e_244, c5, if_neg nz, if_pos v1]
  by_cases v2 : 1 ≤ m.toInt ∧ m.toInt ≤ 50
  · by_cases v3 : 0 ≤ c.toInt ∧ c.toInt ≤ 200
    · by_cases v4 : 0 ≤ e.toInt ∧ e.toInt ≤ 9999
      · obtain ⟨seed, hseed, rfl⟩ := nI_of v1
        obtain ⟨M, hM, rfl⟩ := rz_nat' (n := 50) (by omega) (show 0 ≤ m.toInt ∧ m.toInt ≤ (50 : Nat) by omega)
        obtain ⟨j, hj, rfl⟩ := rz_nat' (n := 200) (by omega) v3
        have hs : seed < 2147483648 := hseed
        have hsd := fun k => rz_sd_lt hs k
        obtain ⟨V, hV⟩ : ∃ V : Nat → Bool, V = fun d => decide (rz_ver (rz_e (rz_ED σ len np nw (rz_sd seed (d * (nb * np))) j) np) (fun n => (rz_sum len n : Int)) np nb e.toInt = 0) := ⟨_, rfl⟩
        have iff0 : ∀ d, (Int32.ofInt (rz_ver (rz_e (rz_ED σ len np nw (rz_sd seed (d * (nb * np))) j) np) (fun n => (rz_sum len n : Int)) np nb e.toInt) = 0) ↔ V d = true := fun d => by
          rw [hV]
          rw [decide_eq_true_iff]
          unfold rz_ver rz_vd
          (repeat' split) <;> decide
        have dn : ∀ d, d * (nb * np) + nb * np = (d + 1) * (nb * np) := fun d => by rw [Nat.succ_mul]
        have lc : ∀ d k, k + d = M → ∀ (τ : ra_S) (o1 o3 : Option Value), rz_ft σ τ → rz_fitC np nl (rz_lw0 σ) (rz_X0 σ) (rz_Y0 σ) (σ.1 101) (rz_S0 σ) (rz_H0 σ) false τ → τ.1 62 12 = nI j → τ.1 62 11 = 0 → (j = 0 ∨ τ.1 62 13 = nI (rz_sd seed (k * (nb * np)))) → ∃ υ : ra_S, ra_D (ra_lay, none, 99999, ra_m129) 82 [some (.ref 0), o1, some (.int (nI M)), o3, some (.int e), some (.int (nI (rz_dc V k))), some (.int (nI k))] [] τ = ra_I (nI (rz_dc V M)) υ ∧ rz_ft σ υ := by
          intro d
          induction d with
          | zero =>
            intro k hk τ o1 o3 hf _ _ _ _
            have : k = M := by omega
            subst this
            rw [e_129_82, rz_inl (by omega) (by omega)]
            exact ⟨τ, rfl, hf⟩
          | succ d ih =>
            intro k hk τ o1 o3 hf fit g12 g11 g13
            obtain ⟨υ, e1, f1, k1, k2, k3, k4, k5⟩ := rz_goC hB hf fit (xp := 0) (xb := 0) (s := rz_sd seed (k * (nb * np))) (j := j) (xv := 0) (by omega) g12 hj (hsd _) (fun b p _ _ => rz_noX (nb := nb) (np := np) g11 b p) g13
            have fit' : rz_fitC np nl (rz_lw0 σ) (rz_X0 σ) (rz_Y0 σ) (σ.1 101) (rz_S0 σ) (rz_H0 σ) false υ := by
              intro q hq
              rw [k1 65 (by decide), k1 63 (by decide), k1 64 (by decide), k1 66 (by decide), k1 67 (by decide), k1 68 (by decide)]
              exact fit q hq
            have nx := ih (k + 1) (by omega) υ o1 o3 f1 fit' (by rw [k2 12 (by decide)]; exact g12) (by rw [k2 11 (by decide)]; exact g11) (by rw [rz_sd_add, dn] at k5; exact k5)
            rw [rz_dc] at nx
            rw [e_129_82, rz_il (by omega) (by omega), e1, ra_kV, rz_c_ver (rz_TC_mk hB f1 k4) (by omega) e v4, ra_kI, nI_1, nI_1]
            by_cases y : V k = true
            · rw [if_pos y] at nx
              rw [if_pos ((iff0 k).mpr y)]
              exact nx
            · rw [if_neg y, Nat.add_zero] at nx
              rw [if_neg (fun w => y ((iff0 k).mp w))]
              exact nx
        have lm : ∀ d k, k + d = M → ∀ (τ : ra_S) (o1 o3 : Option Value), (∀ c, ¬ (c = 86 ∨ c = 61 ∨ (62 ≤ c ∧ c ≤ 85 ∧ c ≠ 75) ∨ c = 102 ∨ c = 104 ∨ c = 105 ∨ (109 ≤ c ∧ c ≤ 114)) → τ.1 c = σ.1 c) → (∀ i, i ≠ 2 → i ≠ 41 → τ.1 86 i = σ.1 86 i) → τ.1 86 41 = nI j → τ.2 86 42 = lN (rz_sd seed (k * (nb * np))) → ∃ υ : ra_S, ra_D (ra_lay, none, 99999, ra_m244) 68 [some (.ref 86), o1, some (.int (nI M)), o3, some (.int e), some (.int (nI (rz_dc V k))), some (.int (nI k))] [] τ = ra_I (nI (rz_dc V M)) υ ∧ rz_ft σ υ := by
          intro d
          induction d with
          | zero =>
            intro k hk τ o1 o3 t1 t2 t3 t4
            have : k = M := by omega
            subst this
            rw [e_244_68, rz_inl (by omega) (by omega)]
            refine ⟨_, rfl, fun c hc => by rw [ra_ui_1 c (by omega)]; exact t1 c hc, fun i hi => ?_⟩
            by_cases y : i = 41
            · subst y; rw [ra_ui_get, if_pos ⟨rfl, rfl⟩]; exact hB.2.2.2.2.2.2.2.2.1.symm
            · rw [ra_ui_get, if_neg (fun x => y x.2)]; exact t2 i hi y
          | succ d ih =>
            intro k hk τ o1 o3 t1 t2 t3 t4
            have st : τ.1 86 39 = -1 := by rw [t2 39 (by decide) (by decide)]; exact hB.2.2.2.2.2.2.1
            have fit : rz_fitM np nl (rz_lw0 σ) (rz_X0 σ) (rz_Y0 σ) (σ.1 101) (rz_S0 σ) (rz_H0 σ) false σ τ := by
              obtain ⟨-, k1, k2, k3, k4, k5⟩ := rz_fitM_ft hB f0
              refine ⟨by rw [st]; rfl, t1 91 (by omega), t1 89 (by omega), t2 14 (by decide) (by decide), t2 12 (by decide) (by decide), fun q hq => ?_⟩
              obtain ⟨l1, l2, l3, l4, l5, l6, l7, l8, l9⟩ := k5 q hq
              rw [t1 93 (by omega), t1 101 (by omega), t1 94 (by omega), t1 95 (by omega)]
              refine ⟨l1, l2, l3, l4, l5, l6, l7, l8, fun q' hq' => ?_⟩
              rw [rz_on_all st, Bool.true_and, Bool.true_and]
              exact ⟨rfl, rfl⟩
            have mw : rz_MW (rz_fw σ) nw τ := by
              have := hB.2.2.2.2.1.2
              unfold rz_MW at this ⊢
              rw [t2 15 (by decide) (by decide), t1 96 (by omega)]
              exact this
            obtain ⟨υ, e1, k1, k2, k3, k4⟩ := rz_goM hB fit (xp := 0) (xb := 0) (s := rz_sd seed (k * (nb * np))) (j := j) (xv := 0) (by omega) hj (hsd _) (Or.inl ⟨mw, rfl⟩) (Or.inr ⟨t3, hj, t4, fun q _ => rz_on_all st q⟩)
            have k5 : υ.2 86 42 = lN (rz_sd seed ((k + 1) * (nb * np))) := by
              rcases k4 with ⟨w, -⟩ | ⟨-, -, w, -⟩
              · exfalso
                rw [t3] at w
                have := congrArg Int32.toInt w
                rw [nI_toInt (by omega)] at this
                have q : ((-1 : Int32)).toInt = -1 := rfl
                omega
              · rw [w, rz_sd_add, dn]
            have tm := rz_TM_mk hB (υ := υ) (by rw [k1 86 (by decide)]; exact t2 14 (by decide) (by decide)) (by rw [k1 86 (by decide)]; exact t2 12 (by decide) (by decide)) (by rw [k1 89 (by decide)]; exact t1 89 (by omega)) (fun b p hb hp => k3 b p hb hp (rz_on_all st p))
            have nx := ih (k + 1) (by omega) υ o1 o3 (fun c hc => by rw [k1 c (by omega)]; exact t1 c hc) (fun i i1 i2 => by rw [k1 86 (by decide)]; exact t2 i i1 i2) (by rw [k1 86 (by decide)]; exact t3) k5
            rw [rz_dc] at nx
            rw [e_244_68, rz_il (by omega) (by omega), e1, ra_kV, rz_m_ver tm (by omega) e v4, ra_kI, nI_1, nI_1, Int32.add_zero]
            by_cases y : V k = true
            · rw [if_pos y] at nx
              rw [if_pos ((iff0 k).mpr y)]
              exact nx
            · rw [if_neg y, Nat.add_zero] at nx
              rw [if_neg (fun w => y ((iff0 k).mp w))]
              exact nx
        obtain ⟨υ, e1, f1, fit, g1, g2, g3, g4, g5, g6, g7⟩ := rz_fillF hB f0
        obtain ⟨υ1, e2, f2⟩ := lc M 0 (by omega) (ra_ui (ra_ui υ 62 13 (nI seed)) 62 12 (nI j)) (some (.int (nI seed))) (some (.int (nI j))) ((f1.ui (by omega)).ui (by omega)) (fun q hq => by
          simp only [ra_ui_1 65 (show (65 : Nat) ≠ 62 by decide), ra_ui_1 63 (show (63 : Nat) ≠ 62 by decide), ra_ui_1 64 (show (64 : Nat) ≠ 62 by decide), ra_ui_1 66 (show (66 : Nat) ≠ 62 by decide), ra_ui_1 67 (show (67 : Nat) ≠ 62 by decide), ra_ui_1 68 (show (68 : Nat) ≠ 62 by decide)]
          exact fit q hq) (by rw [ra_ui_get, if_pos ⟨rfl, rfl⟩]) (by rw [ra_ui_get, if_neg (by decide), ra_ui_get, if_neg (by decide)]; exact g6) (Or.inr (by rw [ra_ui_get, if_neg (by decide), ra_ui_get, if_pos ⟨rfl, rfl⟩, Nat.zero_mul]; rfl))
        obtain ⟨υ2, e3, f3⟩ := lm M 0 (by omega) (ra_ul (ra_ui (ra_ui υ1 86 2 0) 86 41 (nI j)) 86 42 (nI seed).toInt64) (some (.int (nI seed))) (some (.int (nI j))) (fun c hc => by
          show (ra_ui (ra_ui υ1 86 2 0) 86 41 (nI j)).1 c = _
          rw [ra_ui_1 c (by omega), ra_ui_1 c (by omega)]; exact f2.1 c hc) (fun i i1 i2 => by
          show (ra_ui (ra_ui υ1 86 2 0) 86 41 (nI j)).1 86 i = _
          rw [ra_ui_get, if_neg (fun x => i2 x.2), ra_ui_get, if_neg (fun x => i1 x.2)]; exact f2.2 i i1) (by
          show (ra_ui (ra_ui υ1 86 2 0) 86 41 (nI j)).1 86 41 = _
          rw [ra_ui_get, if_pos ⟨rfl, rfl⟩]) (by rw [ra_ul_get, if_pos ⟨rfl, rfl⟩, nI_l hseed, Nat.zero_mul]; rfl)
        refine ⟨nI (rz_dc V M), υ1, υ2, ?_, ?_, rz_R_ft f3 h⟩
        · rw [e_129, c4, if_neg nz, if_neg v1, rz_c_in _ _ 1 50 rfl rfl, ra_kI, rz_t v2, rz_c_in _ _ 0 200 rfl rfl, ra_kI, rz_t v3, ra_c_isOff, ra_kI, rz_t v4, e1, ra_kV]
          exact e2
        · rw [e_244, f2.2 12 (by decide), c5, if_neg nz, if_neg v1, rz_m_in _ _ 1 50 rfl rfl, ra_kI, rz_t v2, rz_m_in _ _ 0 200 rfl rfl, ra_kI, rz_t v3, rz_m_in _ _ 0 9999 rfl rfl, ra_kI, rz_t v4]
          exact e3
      · refine ⟨-1, σ, ra_ui σ 86 2 0, ?_, ?_, rz_R_ft f0' h⟩
        · rw [e_129, c4, if_neg nz, if_neg v1, rz_c_in _ _ 1 50 rfl rfl, ra_kI, rz_t v2, rz_c_in _ _ 0 200 rfl rfl, ra_kI, rz_t v3, ra_c_isOff, ra_kI, rz_f v4]
        · rw [e_244, c5, if_neg nz, if_neg v1, rz_m_in _ _ 1 50 rfl rfl, ra_kI, rz_t v2, rz_m_in _ _ 0 200 rfl rfl, ra_kI, rz_t v3, rz_m_in _ _ 0 9999 rfl rfl, ra_kI, rz_f v4]
    · refine ⟨-1, σ, ra_ui σ 86 2 0, ?_, ?_, rz_R_ft f0' h⟩
      · rw [e_129, c4, if_neg nz, if_neg v1, rz_c_in _ _ 1 50 rfl rfl, ra_kI, rz_t v2, rz_c_in _ _ 0 200 rfl rfl, ra_kI, rz_f v3]
      · rw [e_244, c5, if_neg nz, if_neg v1, rz_m_in _ _ 1 50 rfl rfl, ra_kI, rz_t v2, rz_m_in _ _ 0 200 rfl rfl, ra_kI, rz_f v3]
  · refine ⟨-1, σ, ra_ui σ 86 2 0, ?_, ?_, rz_R_ft f0' h⟩
    · rw [e_129, c4, if_neg nz, if_neg v1, rz_c_in _ _ 1 50 rfl rfl, ra_kI, rz_f v2]
    · rw [e_244, c5, if_neg nz, if_neg v1, rz_m_in _ _ 1 50 rfl rfl, ra_kI, rz_f v2]
