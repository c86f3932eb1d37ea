-- ===== order =====
def rz_ors (V : List Nat → Int) (np : Nat) : Int × List Nat := if np ≤ 5 then rz_ao V np 119 (List.range np) (V (List.range np), List.range np) else rz_rd V np 20 (List.range np) (V (List.range np))
def rz_orv (r : Int × List Nat) (w : Nat) : Int64 := if w = 0 then rz_L r.1 else (nI (r.2.getD (w - 1) (w - 1))).toInt64
section RZR
variable {np nb nl nw : Nat} {len : Nat → Nat} {σ : ra_S} {x y : Int32} {a b : Nat}
theorem rz_c_settle (h8 : np ≤ 8) : ∃ υ : ra_S, ra_C 62 [.ref 82, .int (nI np)] σ = ra_V υ ∧ rz_ft σ υ ∧ υ.1 82 0 = nI np ∧ (∀ q, q < 8 → υ.1 83 q = nI ((List.range np).getD q q)) ∧ υ.2 82 3 = rz_L 9223372036854775807 := by
  have loop : ∀ d k, k + d = 8 → ∀ (τ : ra_S) (o1 : Option Value), rz_ft σ τ → τ.1 82 0 = nI np → (∀ q, q < k → τ.1 83 q = nI ((List.range np).getD q q)) → τ.2 82 3 = rz_L 9223372036854775807 → ∃ υ : ra_S, ra_D (ra_lay, none, 99999, ra_m62) 19 [some (.ref 82), o1, some (.int (nI k))] [] τ = ra_V υ ∧ rz_ft σ υ ∧ υ.1 82 0 = nI np ∧ (∀ q, q < 8 → υ.1 83 q = nI ((List.range np).getD q q)) ∧ υ.2 82 3 = rz_L 9223372036854775807 := by
    intro d
    induction d with
    | zero =>
      intro k hk τ o1 g1 g2 g3 g4
      have : k = 8 := by omega
      subst this
      rw [e_62_19, if_neg (by decide)]
      exact ⟨τ, rfl, g1, g2, g3, g4⟩
    | succ d ih =>
      intro k hk τ o1 g1 g2 g3 g4
      rw [e_62_19, show (8 : Int32) = nI 8 from rfl, rz_il (by omega) (by omega), rz_ig (by omega) (by omega), nI_clamp (by omega), nI_1]
      refine ih (k + 1) (by omega) (ra_ui τ 83 k (nI k)) o1 (g1.ui (by omega)) (by rw [ra_ui_1 82 (by decide)]; exact g2) (fun q hq => ?_) g4
      rw [ra_ui_get, rz_rg]
      by_cases z : q = k
      · rw [if_pos ⟨rfl, z⟩, z]
      · rw [if_neg (fun w => z w.2), g3 q (by omega), rz_rg]
  obtain ⟨υ, e, g⟩ := loop 8 0 (by omega) (ra_ul (ra_ui σ 82 0 (nI np)) 82 3 9223372036854775807) (some (.int (nI np))) ((rz_ft.rf σ).ui (by omega)) (by show (ra_ui σ 82 0 (nI np)).1 82 0 = _; rw [ra_ui_get, if_pos ⟨rfl, rfl⟩]) (fun q hq => by omega) (by rw [ra_ul_get, if_pos ⟨rfl, rfl⟩]; rfl)
  refine ⟨υ, ?_, g⟩
  rw [e_62, rz_mid47, ra_kI, show (8 : Int32) = nI 8 from rfl, rz_inl (by omega) h8]
  exact e
theorem rz_c_ord (hB : rz_base np nb nl nw len σ) (h0 : 0 < np) (hx : rz_in x 0 40) (hy : rz_in y 0 40) (hab : a ≤ b) (hb : b < nb) {w : Nat} (hw : w ≤ np) : ∃ υ : ra_S, ra_C 100 [.ref 0, .int x, .int y, .int (nI a), .int (nI b), .int (nI w)] σ = ra_J (rz_orv (rz_ors (rz_VL σ len np nw x y a b) np) w) υ ∧ rz_ft σ υ := by
  have c1 := hB.1.1.1
  have c3 := hB.1.1.2.2
  have c6 := hB.1.2.1.2.2
  have f0 := rz_ft.rf σ
  have v2 : 0 ≤ (nI a).toInt ∧ (nI a).toInt ≤ (nI b).toInt ∧ (nI b).toInt < nb := by rw [nI_toInt (by omega), nI_toInt (by omega)]; omega
  have v4 : (0 : Int) ≤ (nI w).toInt ∧ (nI w).toInt ≤ (np : Int) := by rw [nI_toInt (by omega)]; omega
  have va := rz_va_rg np
  have vi := rz_VL_in hB va hx hy (a := a) (b := b) (nw := nw) (by omega)
  obtain ⟨υ1, e1, f1, g1, g2, g3⟩ := rz_c_settle (σ := σ) c3
  have lt : rz_VL σ len np nw x y a b (List.range np) < 9223372036854775807 := by omega
  obtain ⟨υ2, υ3, e2, e3, hS⟩ := rz_c_try hB hx hy hab hb va (st := ((9223372036854775807 : Int), ([] : List Nat))) ⟨by dsimp only; omega, by dsimp only; omega⟩ f1 g1 g2 (Or.inl lt) g3
  have eu : rz_up (rz_VL σ len np nw x y a b) ((9223372036854775807 : Int), ([] : List Nat)) (List.range np) = (rz_VL σ len np nw x y a b (List.range np), List.range np) := if_pos lt
  rw [eu] at hS
  have fin : ∀ (υ : ra_S) (L' : List Nat) (r : Int × List Nat) (o1 o2 o3 o4 o6 : Option Value), rz_SC np σ υ L' r → ra_D (ra_lay, none, 99999, ra_m100) 102 [some (.ref 0), o1, o2, o3, o4, some (.int (nI w)), o6] [] υ = ra_J (rz_orv r w) υ := by
    intro υ L' r o1 o2 o3 o4 o6 s
    obtain ⟨-, -, -, s4, s5⟩ := s
    rw [e_100_102]
    unfold rz_orv
    by_cases z : w = 0
    · subst z
      rw [if_pos (show nI 0 = (0 : Int32) from rfl), if_pos rfl, s5]
    · obtain ⟨m, rfl⟩ : ∃ m, w = m + 1 := ⟨w - 1, by omega⟩
      rw [if_neg (nI_ne0 (by omega) (by omega)), if_neg z, nI_pred, e_255, if_neg (nI_pos (by omega)), if_pos (show nI m < (8 : Int32) from nI_lt (a := m) (b := 8) (by omega) (by omega)), rz_ig (by omega) (by omega), nI_clamp (by omega), ra_kI, s4 m (by omega), show m + 1 - 1 = m by omega]
  unfold rz_ors
  by_cases z : np ≤ 5
  · obtain ⟨υ4, L', e4, hS4⟩ := rz_c_all hB h0 hx hy hab hb 119 1 (by omega) (List.range np) _ υ3 va ⟨vi.1, by omega⟩ hS
    refine ⟨υ4, ?_, hS4.1⟩
    rw [e_100, c1, if_neg (nI_ne0 h0 (by omega)), ra_c_isSeat, ra_kI, rz_t ⟨hx, hy⟩, rz_kSc hB f0, ra_kI, rz_t v2, rz_c_in _ _ 0 np rfl (nI_toInt (by omega)), ra_kI, rz_t v4, e1, ra_kV, e2, ra_kJ, e3, ra_kV, if_neg (show ¬ (5 : Int32) < nI np from nI_nlt (a := 5) (by omega) (by omega)), e_101, show (1 : Int32) = nI 1 from rfl, e4, ra_kV, if_pos z]
    exact fin υ4 L' _ _ _ _ _ _ hS4
  · obtain ⟨υ4, L', e4, hS4⟩ := rz_c_rd hB hx hy hab hb 20 0 (by omega) (List.range np) _ υ3 none none none none va vi hS
    refine ⟨υ4, ?_, hS4.1⟩
    rw [e_100, c1, if_neg (nI_ne0 h0 (by omega)), ra_c_isSeat, ra_kI, rz_t ⟨hx, hy⟩, rz_kSc hB f0, ra_kI, rz_t v2, rz_c_in _ _ 0 np rfl (nI_toInt (by omega)), ra_kI, rz_t v4, e1, ra_kV, e2, ra_kJ, e3, ra_kV, if_pos (show (5 : Int32) < nI np from nI_lt (a := 5) (by omega) (by omega)), e_102, hS.1.1 16 (by omega), c1, show (0 : Int32) = nI 0 from rfl, e4, ra_kV, if_neg z]
    exact fin υ4 L' _ _ _ _ _ _ hS4
theorem rz_m_ord (hB : rz_base np nb nl nw len σ) (h0 : 0 < np) (hx : rz_in x 0 40) (hy : rz_in y 0 40) (hab : a ≤ b) (hb : b < nb) {w : Nat} (hw : w ≤ np) {τ : ra_S} (hf : rz_ft σ τ) : ∃ υ : ra_S, ra_C 238 [.ref 86, .int x, .int y, .int (nI a), .int (nI b), .int (nI w)] τ = ra_J (rz_orv (rz_ors (rz_VL σ len np nw x y a b) np) w) υ ∧ rz_ft σ υ := by
  have c2 := hB.1.1.2.1
  have c3 := hB.1.1.2.2
  have c6 := hB.1.2.1.2.2
  have v2 : 0 ≤ (nI a).toInt ∧ (nI a).toInt ≤ (nI b).toInt ∧ (nI b).toInt < nb := by rw [nI_toInt (by omega), nI_toInt (by omega)]; omega
  have v4 : (0 : Int) ≤ (nI w).toInt ∧ (nI w).toInt ≤ (np : Int) := by rw [nI_toInt (by omega)]; omega
  have va := rz_va_rg np
  have vi := rz_VL_in hB va hx hy (a := a) (b := b) (nw := nw) (by omega)
  have lt : rz_VL σ len np nw x y a b (List.range np) < 9223372036854775807 := by omega
  have eu : rz_up (rz_VL σ len np nw x y a b) ((9223372036854775807 : Int), ([] : List Nat)) (List.range np) = (rz_VL σ len np nw x y a b (List.range np), List.range np) := if_pos lt
  -- the seats, back again
  have back : ∀ (r : Int × List Nat) (d k : Nat), k + d = np → ∀ (υ : ra_S) (o1 o2 o3 o4 : Option Value), rz_fo np σ υ → (∀ q, q < np → υ.1 114 q = nI (r.2.getD q q)) → (∀ q, q < k → υ.1 93 (5 * q + 1) = σ.1 93 (5 * q + 1) ∧ υ.1 93 (5 * q + 2) = σ.1 93 (5 * q + 2)) → ∃ υ' : ra_S, ra_D (ra_lay, none, 99999, ra_m238) 144 [some (.ref 86), o1, o2, o3, o4, some (.int (nI w)), some (.long (rz_L r.1)), none, some (.int (nI k))] [] υ = ra_J (rz_orv r w) υ' ∧ rz_ft σ υ' := by
    intro r d
    induction d with
    | zero =>
      intro k hk υ o1 o2 o3 o4 g1 g2 g3
      have : k = np := by omega
      subst this
      have ft : rz_ft σ υ := by
        refine ⟨fun c hc => ?_, g1.2.1⟩
        by_cases z : c = 93
        · subst z
          funext i
          by_cases y : ∀ q, q < k → i ≠ 5 * q + 1 ∧ i ≠ 5 * q + 2
          · exact g1.2.2.1 i y
          · have : ∃ q, q < k ∧ (i = 5 * q + 1 ∨ i = 5 * q + 2) := Classical.byContradiction (fun n => y (fun q hq => ⟨fun e => n ⟨q, hq, Or.inl e⟩, fun e => n ⟨q, hq, Or.inr e⟩⟩))
            obtain ⟨q, hq, rfl | rfl⟩ := this
            · exact (g3 q hq).1
            · exact (g3 q hq).2
        · exact g1.1 c (by omega)
      refine ⟨υ, ?_, ft⟩
      rw [e_238_144, g1.2.1 14 (by decide), c2, rz_inl (by omega) (by omega)]
      unfold rz_orv
      by_cases z : w = 0
      · subst z
        rw [if_pos (show nI 0 = (0 : Int32) from rfl), if_pos rfl]
      · obtain ⟨m, rfl⟩ : ∃ m, w = m + 1 := ⟨w - 1, by omega⟩
        rw [if_neg (nI_ne0 (by omega) (by omega)), if_neg z, nI_pred, rz_ig (by omega) (by omega), nI_clamp (by omega), g2 m (by omega), show m + 1 - 1 = m by omega]
    | succ d ih =>
      intro k hk υ o1 o2 o3 o4 g1 g2 g3
      obtain ⟨p1, p2⟩ := g1.2.2.2 k (by omega)
      rw [e_238_144, g1.2.1 14 (by decide), c2, rz_il (by omega) (by omega), rz_m_sit (by omega) (by omega), ra_kV, nI_1, p1, p2]
      refine ih (k + 1) (by omega) (ra_ui (ra_ui υ 93 (5 * k + 1) (rz_X0 σ k)) 93 (5 * k + 2) (rz_Y0 σ k)) o1 o2 o3 o4 ⟨fun c hc => ?_, fun j hj => ?_, fun i hi => ?_, fun q hq => ?_⟩ (fun q hq => ?_) (fun q hq => ?_)
      · rw [ra_ui_1 c (by omega), ra_ui_1 c (by omega)]; exact g1.1 c hc
      · rw [ra_ui_1 86 (by decide), ra_ui_1 86 (by decide)]; exact g1.2.1 j hj
      · have := hi k (by omega)
        simp only [ra_ui_get, true_and]
        rw [if_neg this.2, if_neg this.1]; exact g1.2.2.1 i hi
      · rw [ra_ui_1 111 (by decide), ra_ui_1 111 (by decide), ra_ui_1 112 (by decide), ra_ui_1 112 (by decide)]; exact g1.2.2.2 q hq
      · rw [ra_ui_1 114 (by decide), ra_ui_1 114 (by decide)]; exact g2 q hq
      · simp only [ra_ui_get, true_and]
        by_cases z : q = k
        · subst z
          rw [if_neg (by omega), if_pos rfl, if_pos rfl]; exact ⟨rfl, rfl⟩
        · rw [if_neg (by omega), if_neg (by omega), if_neg (by omega), if_neg (by omega)]; exact g3 q (by omega)
  -- the whole
  have go : ∀ τ1 : ra_S, rz_fo np σ τ1 → (∀ q, q < np → τ1.1 113 q = nI ((List.range np).getD q q)) → ∃ υ : ra_S, (if (5 : Int32) < nI np then (ra_C 237 [.ref 86, .int x, .int y, .int (nI a), .int (nI b)] τ1).bind (ra_kl fun y2 s1 => ra_D (ra_lay, none, 99999, ra_m238) 144 [some (.ref 86), some (.int x), some (.int y), some (.int (nI a)), some (.int (nI b)), some (.int (nI w)), some (.long y2), none, some (.int 0)] [] s1) else (ra_C 236 [.ref 86, .int x, .int y, .int (nI a), .int (nI b)] τ1).bind (ra_kl fun y4 s3 => ra_D (ra_lay, none, 99999, ra_m238) 144 [some (.ref 86), some (.int x), some (.int y), some (.int (nI a)), some (.int (nI b)), some (.int (nI w)), some (.long y4), none, some (.int 0)] [] s3)) = ra_J (rz_orv (rz_ors (rz_VL σ len np nw x y a b) np) w) υ ∧ rz_ft σ υ := by
    intro τ1 g1 g2
    unfold rz_ors
    by_cases z : np ≤ 5
    · have en : rz_en np 119 (List.range np) = true := by
        have := rz_en5 ⟨np - 1, by omega⟩
        dsimp only at this
        rw [show np - 1 + 1 = np by omega] at this
        exact this
      obtain ⟨υ, e, k1, k2⟩ := rz_m_all hB h0 hx hy hab hb 119 (List.range np) ((9223372036854775807 : Int), ([] : List Nat)) τ1 (-1) none none none en va ⟨by dsimp only; omega, by dsimp only; omega⟩ g1 g2 (Or.inl ⟨rfl, lt⟩)
      rw [eu] at e k2
      rw [if_neg (show ¬ (5 : Int32) < nI np from nI_nlt (a := 5) (by omega) (by omega)), e_236, e, ra_kJ, if_pos z]
      exact back _ np 0 (by omega) υ _ _ _ _ k1 k2 (fun q hq => by omega)
    · obtain ⟨υ1, e1, f1, m1, m2⟩ := rz_m_ts hB g1 va g2 hx hy hab hb
      obtain ⟨υ, e, k1, k2⟩ := rz_m_rd hB hx hy hab hb 20 0 (by omega) (List.range np) _ υ1 none none none none none none va vi f1 (fun q hq => by rw [m1]; exact g2 q hq)
      rw [if_pos (show (5 : Int32) < nI np from nI_lt (a := 5) (by omega) (by omega)), e_237, e1, ra_kJ, if_neg z]
      rw [show (0 : Int32) = nI 0 from rfl, e, ra_kJ]
      exact back _ np 0 (by omega) υ _ _ _ _ k1 k2 (fun q hq => by omega)
  have lay : ∀ d k, k + d = np → ∀ τ1 : ra_S, (∀ c, ¬ (c = 111 ∨ c = 112 ∨ c = 113) → τ1.1 c = (ra_ui τ 86 2 0).1 c) → (∀ q, q < k → τ1.1 111 q = rz_X0 σ q ∧ τ1.1 112 q = rz_Y0 σ q ∧ τ1.1 113 q = nI ((List.range np).getD q q)) → ∃ υ : ra_S, ra_D (ra_lay, none, 99999, ra_m238) 50 [some (.ref 86), some (.int x), some (.int y), some (.int (nI a)), some (.int (nI b)), some (.int (nI w)), some (.int (nI k)), none, none] [] τ1 = ra_J (rz_orv (rz_ors (rz_VL σ len np nw x y a b) np) w) υ ∧ rz_ft σ υ := by
    have hf2 := hf.u2 (x := 0)
    intro d
    induction d with
    | zero =>
      intro k hk τ1 g1 g2
      have : k = np := by omega
      subst this
      rw [e_238_50, g1 86 (by decide), hf2.2 14 (by decide), c2, rz_inl (by omega) (by omega)]
      refine go τ1 ⟨fun c hc => ?_, fun j hj => ?_, fun i hi => ?_, fun q hq => ⟨(g2 q hq).1, (g2 q hq).2.1⟩⟩ (fun q hq => (g2 q hq).2.2)
      · rw [g1 c (by omega)]; exact hf2.1 c (by omega)
      · rw [g1 86 (by decide)]; exact hf2.2 j hj
      · rw [g1 93 (by decide), hf2.1 93 (by omega)]
    | succ d ih =>
      intro k hk τ1 g1 g2
      rw [e_238_50, g1 86 (by decide), hf2.2 14 (by decide), c2, rz_il (by omega) (by omega), rz_mul5_1, rz_mul5_2, rz_ig (by omega) (by omega), rz_ig (by omega) (by omega), rz_ig (by omega) (by omega), rz_ig (by omega) (by omega), rz_ig (by omega) (by omega), nI_clamp (by omega), nI_clamp (by omega), nI_clamp (by omega), nI_1, g1 93 (by decide), hf2.1 93 (by omega)]
      refine ih (k + 1) (by omega) (ra_ui (ra_ui (ra_ui τ1 111 k (σ.1 93 (5 * k + 1))) 112 k (σ.1 93 (5 * k + 2))) 113 k (nI k)) (fun c hc => ?_) (fun q hq => ?_)
      · rw [ra_ui_1 c (by omega), ra_ui_1 c (by omega), ra_ui_1 c (by omega)]; exact g1 c hc
      · simp only [ra_ui_get, Nat.reduceEqDiff, false_and, if_false, true_and]
        by_cases z : q = k
        · rw [if_pos z, if_pos z, if_pos z, z, rz_rg]; exact ⟨rfl, rfl, rfl⟩
        · rw [if_neg z, if_neg z, if_neg z]; exact g2 q (by omega)
  obtain ⟨υ, e, k1⟩ := lay np 0 (by omega) (ra_ui τ 86 2 0) (fun _ _ => rfl) (fun q hq => by omega)
  refine ⟨υ, ?_, k1⟩
  rw [e_238, hf.2 14 (by decide), c2, if_neg (nI_ne0 h0 (by omega)), ra_m_isSeat, ra_kI, rz_t ⟨hx, hy⟩, rz_kSm hB (hf.u2), ra_kI, rz_t v2, (hf.u2 (x := 0)).2 14 (by decide), c2, rz_m_in _ _ 0 np rfl (nI_toInt (by omega)), ra_kI, rz_t v4]
  exact e
end RZR
theorem rz_order {σ : ra_S} (h : rz_R σ) (x y a b w : Int32) : rz_OJ 100 238 [.int x, .int y, .int a, .int b, .int w] σ := by
  obtain ⟨np, nb, nl, nw, len, hB⟩ := rz_base_of h
  have f0 := rz_ft.rf σ
  have f0' := f0.u2 (x := 0)
  have c1 := hB.1.1.1
  have c2 := hB.1.1.2.1
  have c3 := hB.1.1.2.2
  have c6 := hB.1.2.1.2.2
  by_cases v0 : np = 0
  · refine ⟨-1, σ, ra_ui σ 86 2 0, ?_, ?_, rz_R_ft f0' h⟩
    · rw [e_100, c1, v0, if_pos (show nI 0 = (0 : Int32) from rfl)]
    · rw [e_238, c2, v0, if_pos (show nI 0 = (0 : Int32) from rfl)]
  have n0 : ¬ nI np = (0 : Int32) := nI_ne0 (by omega) (by omega)
  by_cases v3 : (0 ≤ x.toInt ∧ x.toInt ≤ 40) ∧ (0 ≤ y.toInt ∧ y.toInt ≤ 40)
  · by_cases v2 : 0 ≤ a.toInt ∧ a.toInt ≤ b.toInt ∧ b.toInt < nb
    · by_cases v4 : (0 : Int) ≤ w.toInt ∧ w.toInt ≤ (np : Int)
      · obtain ⟨b', hb, rfl⟩ := rz_nat (n := nb) (by omega) (show 0 ≤ b.toInt ∧ b.toInt < nb by omega)
        obtain ⟨a', ha, rfl⟩ := rz_nat (n := nb) (by omega) (show 0 ≤ a.toInt ∧ a.toInt < nb by omega)
        obtain ⟨w', hw, rfl⟩ := rz_nat (n := np + 1) (by omega) (show 0 ≤ w.toInt ∧ w.toInt < (np + 1 : Nat) by omega)
        have hab : a' ≤ b' := by rw [nI_toInt (by omega), nI_toInt (by omega)] at v2; omega
        obtain ⟨υ1, e1, f1⟩ := rz_c_ord hB (by omega) v3.1 v3.2 hab hb (w := w') (by omega)
        obtain ⟨υ2, e2, f2⟩ := rz_m_ord hB (by omega) v3.1 v3.2 hab hb (w := w') (by omega) f1
        exact ⟨_, υ1, υ2, e1, e2, rz_R_ft f2 h⟩
      · refine ⟨-1, σ, ra_ui σ 86 2 0, ?_, ?_, rz_R_ft f0' h⟩
        · rw [e_100, c1, if_neg n0, ra_c_isSeat, ra_kI, rz_t v3, rz_kSc hB f0, ra_kI, rz_t v2, rz_c_in _ _ 0 np rfl (nI_toInt (by omega)), ra_kI, rz_f v4]
        · rw [e_238, c2, if_neg n0, ra_m_isSeat, ra_kI, rz_t v3, rz_kSm hB f0', ra_kI, rz_t v2, f0'.2 14 (by decide), c2, rz_m_in _ _ 0 np rfl (nI_toInt (by omega)), ra_kI, rz_f v4]
    · refine ⟨-1, σ, ra_ui σ 86 2 0, ?_, ?_, rz_R_ft f0' h⟩
      · rw [e_100, c1, if_neg n0, ra_c_isSeat, ra_kI, rz_t v3, rz_kSc hB f0, ra_kI, rz_f v2]
      · rw [e_238, c2, if_neg n0, ra_m_isSeat, ra_kI, rz_t v3, rz_kSm hB f0', ra_kI, rz_f v2]
  · refine ⟨-1, σ, ra_ui σ 86 2 0, ?_, ?_, rz_R_ft f0' h⟩
    · rw [e_100, c1, if_neg n0, ra_c_isSeat, ra_kI, rz_f v3]
    · rw [e_238, c2, if_neg n0, ra_m_isSeat, ra_kI, rz_f v3]
