-- ===== order: seats changed, on both sides =====
def rz_sw2 (L : List Nat) (i j : Nat) : List Nat := (L.set i (L.getD j j)).set j (L.getD i i)
def rz_va (np : Nat) (L : List Nat) : Prop := L.length = np ∧ ∀ x ∈ L, x < np
theorem rz_sw2_get {L : List Nat} {i j : Nat} (hi : i < L.length) (hj : j < L.length) (q : Nat) : (rz_sw2 L i j).getD q q = if q = j then L.getD i i else if q = i then L.getD j j else L.getD q q := by
  unfold rz_sw2
  simp only [List.getD_eq_getElem?_getD, List.getElem?_set, List.length_set]
  by_cases y : j = q
  · subst y
    simp only [if_true, hj]
    rfl
  · have y' : ¬ q = j := fun w => y w.symm
    by_cases z : i = q
    · subst z
      simp only [if_true, hi, if_neg y, if_neg y']
      rfl
    · have z' : ¬ q = i := fun w => z w.symm
      simp only [if_neg y, if_neg y', if_neg z, if_neg z']
theorem rz_va_get {np : Nat} {L : List Nat} (h : rz_va np L) {q : Nat} (hq : q < np) : L.getD q q < np := by
  obtain ⟨h1, h2⟩ := h
  have : q < L.length := by omega
  rw [List.getD_eq_getElem?_getD, List.getElem?_eq_getElem this]
  exact h2 _ (List.getElem_mem this)
theorem rz_va_out {np : Nat} {L : List Nat} (h : rz_va np L) {q : Nat} (hq : np ≤ q) : L.getD q q = q := by
  rw [List.getD_eq_getElem?_getD, List.getElem?_eq_none (by rw [h.1]; exact hq)]; rfl
theorem rz_va_sw {np : Nat} {L : List Nat} (h : rz_va np L) {i j : Nat} (hi : i < np) (hj : j < np) : rz_va np (rz_sw2 L i j) := by
  refine ⟨by unfold rz_sw2; rw [List.length_set, List.length_set]; exact h.1, fun x hx => ?_⟩
  unfold rz_sw2 at hx
  rcases List.mem_or_eq_of_mem_set hx with hx | hx
  · rcases List.mem_or_eq_of_mem_set hx with hx | hx
    · exact h.2 x hx
    · rw [hx]; exact rz_va_get h hj
  · rw [hx]; exact rz_va_get h hi
def rz_XL (σ : ra_S) (L : List Nat) (q : Nat) : Int32 := rz_X0 σ (L.getD q q)
def rz_YL (σ : ra_S) (L : List Nat) (q : Nat) : Int32 := rz_Y0 σ (L.getD q q)
noncomputable abbrev rz_EO (σ : ra_S) (len : Nat → Nat) (np nw : Nat) (L : List Nat) : rz_En := rz_mkE σ len (rz_lw0 σ) (rz_XL σ L) (rz_YL σ L) (σ.1 101) (rz_S0 σ) (rz_H0 σ) false (rz_exf σ np nw 0 0 0 0 0)
noncomputable def rz_VL (σ : ra_S) (len : Nat → Nat) (np nw : Nat) (x y : Int32) (a b : Nat) (L : List Nat) : Int := rz_tgv (rz_e (rz_EO σ len np nw L) np) (rz_spk σ) (rz_XL σ L) (rz_YL σ L) np x y a b
theorem rz_XL_in {np nb nl nw : Nat} {len : Nat → Nat} {σ : ra_S} (hB : rz_base np nb nl nw len σ) {L : List Nat} (hL : rz_va np L) {q : Nat} (hq : q < np) : rz_in (rz_XL σ L q) 0 40 ∧ rz_in (rz_YL σ L q) 0 40 := by
  obtain ⟨⟨s1, s2⟩, ⟨s3, s4⟩, -⟩ := hB.2.2.2.2.2.1 _ (rz_va_get hL hq)
  exact ⟨rz_in40 s2, rz_in40 s4⟩
theorem rz_VL_in {np nb nl nw : Nat} {len : Nat → Nat} {σ : ra_S} (hB : rz_base np nb nl nw len σ) {L : List Nat} (hL : rz_va np L) {x y : Int32} (hx : rz_in x 0 40) (hy : rz_in y 0 40) {a b : Nat} (hb : b < 40) : 0 ≤ rz_VL σ len np nw x y a b L ∧ rz_VL σ len np nw x y a b L ≤ 100000000000 := by
  have := rz_tg_in (g := fun n p => rz_e (rz_EO σ len np nw L) np n p + rz_lt (rz_spk σ) (rz_XL σ L) (rz_YL σ L) x y p) (np := np) (a := a) (b + 1 - a) (fun n q hn hq => by
    have i1 := rz_e_in (rz_EO σ len np nw L) np n q
    obtain ⟨k3, k4⟩ := rz_XL_in hB hL hq
    have p2 := (hB.2.2.1 q hq).2.2.1.2
    have i2 := rz_lt_in (np := np) (spk := rz_spk σ) hx hy (p := q) ⟨k3, k4, p2.1, p2.2⟩
    omega)
  refine ⟨this.1, Int.le_trans this.2 ?_⟩
  omega
/-- the class, seated -/
theorem rz_c_ts {np nb nl nw : Nat} {len : Nat → Nat} {σ τ : ra_S} (hB : rz_base np nb nl nw len σ) (hf : rz_ft σ τ) {L : List Nat} (hL : rz_va np L) (h83 : ∀ q, q < 8 → τ.1 83 q = nI (L.getD q q)) {x y : Int32} (hx : rz_in x 0 40) (hy : rz_in y 0 40) {a b : Nat} (hab : a ≤ b) (hb : b < nb) : ∃ υ : ra_S, ra_C 103 [.ref 0, .int x, .int y, .int (nI a), .int (nI b)] τ = ra_J (rz_L (rz_VL σ len np nw x y a b L)) υ ∧ rz_ft σ υ ∧ (∀ c, ¬ ((62 ≤ c ∧ c ≤ 74) ∨ c = 76) → υ.1 c = τ.1 c) ∧ ∀ c, c ≠ 72 → υ.2 c = τ.2 c := by
  have c3 := hB.1.1.2.2
  obtain ⟨υ, e, f1, fit, g1, g2, g3, g4, g5, g6, g7⟩ := rz_fillF hB hf
  have g8 : ∀ q, q < 8 → L.getD q q < 8 := fun q hq => by
    by_cases z : q < np
    · have := rz_va_get hL z; omega
    · rw [rz_va_out hL (by omega)]; exact hq
  have sit : ∀ d k, k + d = 8 → ∀ (υ1 : ra_S) (o4 : Option Value), (∀ c, c ≠ 63 → c ≠ 64 → υ1.1 c = υ.1 c) → υ1.2 = υ.2 → (∀ q, q < k → υ1.1 63 q = τ.1 49 (L.getD q q) ∧ υ1.1 64 q = τ.1 50 (L.getD q q)) → ∃ υ2 : ra_S, ra_D (ra_lay, none, 99999, ra_m3) 2 [some (.ref 62), some (.ref 82), some (.ref 48), some (.int (nI k)), o4] [] υ1 = ra_V υ2 ∧ (∀ c, c ≠ 63 → c ≠ 64 → υ2.1 c = υ.1 c) ∧ υ2.2 = υ.2 ∧ (∀ q, q < 8 → υ2.1 63 q = τ.1 49 (L.getD q q) ∧ υ2.1 64 q = τ.1 50 (L.getD q q)) := by
    intro d
    induction d with
    | zero =>
      intro k hk υ1 o4 t1 t2 t3
      have : k = 8 := by omega
      subst this
      rw [e_3_2, if_neg (by decide)]
      exact ⟨υ1, rfl, t1, t2, t3⟩
    | succ d ih =>
      intro k hk υ1 o4 t1 t2 t3
      have gk := g8 k (by omega)
      rw [e_3_2, show (8 : Int32) = nI 8 from rfl, rz_il (by omega) (by omega), rz_ig (by omega) (by omega), nI_clamp (by omega), t1 83 (by decide) (by decide), g1 83 (by omega), h83 k (by omega), e_9, if_neg (nI_pos (by omega)), show (8 : Int32) = nI 8 from rfl, rz_il (by omega) gk, ra_kI, if_neg (by decide)]
      rw [rz_ig (by omega) (by omega), rz_ig (by omega) (by omega), rz_ig (by omega) (by omega), rz_ig (by omega) (by omega), nI_clamp (by omega), t1 49 (by decide) (by decide), t1 50 (by decide) (by decide), g1 49 (by omega), g1 50 (by omega), nI_1]
      refine ih (k + 1) (by omega) (ra_ui (ra_ui υ1 63 k (τ.1 49 (L.getD k k))) 64 k (τ.1 50 (L.getD k k))) _ (fun c c1 c2 => by rw [ra_ui_1 c c2, ra_ui_1 c c1]; exact t1 c c1 c2) t2 (fun q hq => ?_)
      simp only [ra_ui_get, Nat.reduceEqDiff, false_and, if_false, true_and]
      by_cases z : q = k
      · rw [if_pos z, if_pos z, z]; exact ⟨rfl, rfl⟩
      · rw [if_neg z, if_neg z]; exact t3 q (by omega)
  obtain ⟨υ1, e1, t1, t2, t3⟩ := sit 8 0 (by omega) υ none (fun _ _ _ => rfl) rfl (fun q hq => by omega)
  have f2 : rz_ft σ υ1 := rz_ft.of f1 (fun c hc => t1 c (by omega) (by omega))
  have fit2 : rz_fitC np nl (rz_lw0 σ) (rz_XL σ L) (rz_YL σ L) (σ.1 101) (rz_S0 σ) (rz_H0 σ) false υ1 := by
    intro q hq
    obtain ⟨k1, k2, -, -, -, -, k7, k8⟩ := fit q hq
    obtain ⟨i1, i2⟩ := rz_XL_in hB hL hq
    obtain ⟨⟨s1, -⟩, ⟨s3, -⟩, -⟩ := hB.2.2.2.2.2.1 _ (rz_va_get hL hq)
    refine ⟨by rw [t1 65 (by decide) (by decide)]; exact k1, k2, by rw [(t3 q (by omega)).1, hf.1 49 (by omega), s1]; rfl, by rw [(t3 q (by omega)).2, hf.1 50 (by omega), s3]; rfl, i1, i2, by rw [t1 66 (by decide) (by decide)]; exact k7, by rw [t1 67 (by decide) (by decide), t1 68 (by decide) (by decide)]; exact k8⟩
  obtain ⟨υ2, e2, f3, k1, k2, k3, k4, k5⟩ := rz_goC hB f2 fit2 (xp := 0) (xb := 0) (s := 0) (j := 0) (xv := 0) (by omega) (by rw [t1 62 (by decide) (by decide)]; exact g7) (by omega) (by omega) (fun b p _ _ => rz_noX (nb := nb) (np := np) (by rw [t1 62 (by decide) (by decide)]; exact g6) b p) (Or.inl rfl)
  have hc : rz_HC (rz_e (rz_EO σ len np nw L) np) (fun n => (rz_sum len n : Int)) np nb (rz_spk σ) (rz_XL σ L) (rz_YL σ L) υ2 := by
    refine ⟨rz_TC_mk hB f3 k4, fun q hq => ?_⟩
    obtain ⟨-, -, m3, m4, m5, m6, -⟩ := fit2 q hq
    obtain ⟨p1, p2⟩ := (hB.2.2.1 q hq).2.2.1
    exact ⟨by rw [k1 63 (by decide)]; exact m3, by rw [k1 64 (by decide)]; exact m4, m5, m6, by rw [f3.1 21 (by omega), p1]; exact (rz_ofI _).symm, p2.1, p2.2⟩
  obtain ⟨υ3, e3, q1, q2⟩ := rz_c_tg hc (fun _ _ => rfl) hx hy hab hb
  refine ⟨υ3, ?_, rz_ft.of f3 (fun c hc => q1 c (by omega)), fun c hc => ?_, fun c hc => ?_⟩
  · rw [e_103, e, ra_kV, e_3, show (0 : Int32) = nI 0 from rfl, e1, ra_kV, e2, ra_kV, e3, ra_kJ]; rfl
  · rw [q1 c (by omega), k1 c (by simp only [List.mem_cons, List.not_mem_nil, or_false, not_or]; omega), t1 c (by omega) (by omega), g1 c (by omega)]
  · rw [q2, k3 c hc, t2, g2]
/-- what the reference may have changed while it tries seats -/
def rz_fo (np : Nat) (σ τ : ra_S) : Prop := (∀ c, ¬ (c = 86 ∨ c = 93 ∨ c = 61 ∨ (62 ≤ c ∧ c ≤ 85 ∧ c ≠ 75) ∨ c = 102 ∨ c = 104 ∨ c = 105 ∨ (109 ≤ c ∧ c ≤ 114)) → τ.1 c = σ.1 c) ∧ (∀ k, k ≠ 2 → τ.1 86 k = σ.1 86 k) ∧ (∀ i, (∀ q, q < np → i ≠ 5 * q + 1 ∧ i ≠ 5 * q + 2) → τ.1 93 i = σ.1 93 i) ∧ ∀ q, q < np → τ.1 111 q = rz_X0 σ q ∧ τ.1 112 q = rz_Y0 σ q
theorem rz_m_sit {τ : ra_S} {p q : Nat} (hp : p < 8) (hq : q < 8) : ra_C 232 [.ref 86, .int (nI p), .int (nI q)] τ = ra_V (ra_ui (ra_ui τ 93 (5 * p + 1) (τ.1 111 q)) 93 (5 * p + 2) (τ.1 112 q)) := by
  rw [e_232, rz_mul5_1, rz_mul5_2, rz_ig (by omega) (by omega), rz_ig (by omega) (by omega), rz_ig (by omega) (by omega), rz_ig (by omega) (by omega), nI_clamp (by omega), nI_clamp (by omega), nI_clamp (by omega)]
theorem rz_m_ts {np nb nl nw : Nat} {len : Nat → Nat} {σ τ : ra_S} (hB : rz_base np nb nl nw len σ) (hf : rz_fo np σ τ) {L : List Nat} (hL : rz_va np L) (h113 : ∀ q, q < np → τ.1 113 q = nI (L.getD q q)) {x y : Int32} (hx : rz_in x 0 40) (hy : rz_in y 0 40) {a b : Nat} (hab : a ≤ b) (hb : b < nb) : ∃ υ : ra_S, ra_C 233 [.ref 86, .int x, .int y, .int (nI a), .int (nI b)] τ = ra_J (rz_L (rz_VL σ len np nw x y a b L)) υ ∧ rz_fo np σ υ ∧ υ.1 113 = τ.1 113 ∧ υ.1 114 = τ.1 114 := by
  obtain ⟨-, c2, c3⟩ := hB.1.1
  obtain ⟨t1, t2, t3, t4⟩ := id hf
  have sit : ∀ d k, k + d = np → ∀ υ1 : ra_S, (∀ c, c ≠ 93 → υ1.1 c = τ.1 c) → (∀ q, q < k → υ1.1 93 (5 * q + 1) = rz_XL σ L q ∧ υ1.1 93 (5 * q + 2) = rz_YL σ L q) → (∀ i, (∀ q, q < np → i ≠ 5 * q + 1 ∧ i ≠ 5 * q + 2) → υ1.1 93 i = σ.1 93 i) → ∃ υ2 : ra_S, ra_D (ra_lay, none, 99999, ra_m233) 3 [some (.ref 86), some (.int x), some (.int y), some (.int (nI a)), some (.int (nI b)), some (.int (nI k))] [] υ1 = ra_D (ra_lay, none, 99999, ra_m233) 3 [some (.ref 86), some (.int x), some (.int y), some (.int (nI a)), some (.int (nI b)), some (.int (nI np))] [] υ2 ∧ (∀ c, c ≠ 93 → υ2.1 c = τ.1 c) ∧ (∀ q, q < np → υ2.1 93 (5 * q + 1) = rz_XL σ L q ∧ υ2.1 93 (5 * q + 2) = rz_YL σ L q) ∧ (∀ i, (∀ q, q < np → i ≠ 5 * q + 1 ∧ i ≠ 5 * q + 2) → υ2.1 93 i = σ.1 93 i) := by
    intro d
    induction d with
    | zero => intro k hk υ1 g1 g2 g3; have : k = np := by omega
              subst this; exact ⟨υ1, rfl, g1, g2, g3⟩
    | succ d ih =>
      intro k hk υ1 g1 g2 g3
      have gk := rz_va_get hL (q := k) (by omega)
      rw [e_233_3, g1 86 (by decide), t2 14 (by decide), c2, rz_il (by omega) (by omega), rz_ig (by omega) (by omega), nI_clamp (by omega), g1 113 (by decide), h113 k (by omega), rz_m_sit (by omega) (by omega), ra_kV, nI_1, g1 111 (by decide), g1 112 (by decide), (t4 _ gk).1, (t4 _ gk).2]
      refine ih (k + 1) (by omega) (ra_ui (ra_ui υ1 93 (5 * k + 1) (rz_X0 σ (L.getD k k))) 93 (5 * k + 2) (rz_Y0 σ (L.getD k k))) (fun c hc => by rw [ra_ui_1 c hc, ra_ui_1 c hc]; exact g1 c hc) (fun q hq => ?_) (fun i hi => ?_)
      · simp only [ra_ui_get, true_and]
        by_cases z : q = k
        · subst z
          rw [if_neg (by omega), if_pos rfl, if_pos rfl]; exact ⟨rfl, rfl⟩
        · rw [if_neg (by omega), if_neg (by omega), if_neg (by omega), if_neg (by omega)]; exact g2 q (by omega)
      · have := hi k (by omega)
        simp only [ra_ui_get, true_and]
        rw [if_neg this.2, if_neg this.1]; exact g3 i hi
  obtain ⟨υ, e, g1, g2, g3⟩ := sit np 0 (by omega) τ (fun _ _ => rfl) (fun q hq => by omega) t3
  have f86 : ∀ k, k ≠ 2 → υ.1 86 k = σ.1 86 k := fun k hk => by rw [g1 86 (by decide)]; exact t2 k hk
  have st : υ.1 86 39 = -1 := by rw [f86 39 (by decide)]; exact hB.2.2.2.2.2.2.1
  have fit : rz_fitM np nl (rz_lw0 σ) (rz_XL σ L) (rz_YL σ L) (σ.1 101) (rz_S0 σ) (rz_H0 σ) false σ υ := by
    obtain ⟨-, k1, k2, k3, k4, k5⟩ := rz_fitM_ft hB (rz_ft.rf σ)
    refine ⟨by rw [st]; rfl, by rw [g1 91 (by decide)]; exact t1 91 (by omega), by rw [g1 89 (by decide)]; exact t1 89 (by omega), f86 14 (by decide), f86 12 (by decide), fun q hq => ?_⟩
    obtain ⟨l1, l2, -, -, -, -, -, l8, -⟩ := k5 q hq
    obtain ⟨i1, i2⟩ := rz_XL_in hB hL hq
    refine ⟨by rw [g3 _ (fun q' _ => by omega)]; exact l1, l2, (g2 q hq).1, (g2 q hq).2, g3 _ (fun q' _ => by omega), i1, i2, fun j hj => by rw [g1 101 (by decide), t1 101 (by omega)], fun q' hq' => ?_⟩
    rw [rz_on_all st, Bool.true_and, Bool.true_and, g1 94 (by decide), g1 95 (by decide), t1 94 (by omega), t1 95 (by omega)]
    exact ⟨rfl, rfl⟩
  have mw : rz_MW (rz_fw σ) nw υ := by
    have := hB.2.2.2.2.1.2
    unfold rz_MW at this ⊢
    rw [f86 15 (by decide), g1 96 (by decide), t1 96 (by omega)]
    exact this
  obtain ⟨υ1, e1, k1, k2, k3, k4⟩ := rz_goM hB fit (xp := 0) (xb := 0) (s := 0) (j := 0) (xv := 0) (by omega) (by omega) (by omega) (Or.inl ⟨mw, rfl⟩) (Or.inl ⟨by rw [f86 41 (by decide)]; exact hB.2.2.2.2.2.2.2.2.1, rfl⟩)
  have tm := rz_TM_mk hB (υ := υ1) (by rw [k1 86 (by decide)]; exact f86 14 (by decide)) (by rw [k1 86 (by decide)]; exact f86 12 (by decide)) (by rw [k1 89 (by decide), g1 89 (by decide)]; exact t1 89 (by omega)) (fun b p hb hp => k3 b p hb hp (rz_on_all st p))
  have hm : rz_HM (rz_e (rz_EO σ len np nw L) np) (fun n => (rz_sum len n : Int)) np nb (rz_spk σ) (rz_XL σ L) (rz_YL σ L) υ1 := by
    refine ⟨tm, fun q hq => ?_⟩
    obtain ⟨i1, i2⟩ := rz_XL_in hB hL hq
    obtain ⟨p1, p2⟩ := (hB.2.2.1 q hq).2.2.1
    rw [k1 93 (by decide)]
    exact ⟨(g2 q hq).1, (g2 q hq).2, i1, i2, by rw [g3 _ (fun q' _ => by omega)]; exact (rz_ofI _).symm, p2.1, p2.2⟩
  obtain ⟨υ2, e2, m1, m2⟩ := rz_m_tg hm (fun _ _ => rfl) hx hy hab hb
  refine ⟨υ2, ?_, ⟨fun c hc => ?_, fun k hk => ?_, fun i hi => ?_, fun q hq => ?_⟩, ?_, ?_⟩
  · rw [e_233, show (0 : Int32) = nI 0 from rfl, e, e_233_3, f86 14 (by decide), c2, rz_inl (by omega) (by omega), e1, ra_kV, e2, ra_kJ]; rfl
  · rw [m1 c (by omega), k1 c (by omega), g1 c (by omega)]; exact t1 c hc
  · rw [m1 86 (by decide), k1 86 (by decide)]; exact f86 k hk
  · rw [m1 93 (by decide), k1 93 (by decide)]; exact g3 i hi
  · rw [m1 111 (by decide), m1 112 (by decide), k1 111 (by decide), k1 112 (by decide), g1 111 (by decide), g1 112 (by decide)]; exact t4 q hq
  · rw [m1 113 (by decide), k1 113 (by decide), g1 113 (by decide)]
  · rw [m1 114 (by decide), k1 114 (by decide), g1 114 (by decide)]
