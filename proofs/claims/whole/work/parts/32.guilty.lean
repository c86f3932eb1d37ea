-- ===== bits of four =====
theorem rz_b_or : ∀ (t : Fin 16) (k j : Fin 4), rz_bit (nI t.val ||| nI (2 ^ k.val)) j.val = (rz_bit (nI t.val) j.val || decide (j.val = k.val)) := by decide +kernel
theorem rz_b_xor : ∀ (t : Fin 16) (k j : Fin 4), rz_bit (nI t.val) k.val = false → rz_bit (nI t.val ^^^ ((1 : Int32) <<< (nI k.val &&& 31))) j.val = rz_bit (nI t.val ||| nI (2 ^ k.val)) j.val := by decide +kernel
theorem rz_b_xx : ∀ (t : Fin 16) (k : Fin 4), (nI t.val ^^^ ((1 : Int32) <<< (nI k.val &&& 31))) ^^^ ((1 : Int32) <<< (nI k.val &&& 31)) = nI t.val := by decide +kernel
theorem rz_b_and : ∀ (t : Fin 16) (k : Fin 4), decide (nI t.val &&& nI (2 ^ k.val) = (0 : Int32)) = !rz_bit (nI t.val) k.val := by decide +kernel
theorem rz_b_sh : ∀ k : Fin 4, (1 : Int32) <<< (nI k.val &&& 31) = nI (2 ^ k.val) := by decide +kernel
theorem rz_p16 {x : Int32} (h : rz_in x 0 15) : ∃ t : Fin 16, x = nI t.val := by
  obtain ⟨t, h1, h2⟩ := rz_nat' (n := 15) (by omega) h
  exact ⟨⟨t, by omega⟩, h2⟩
/-- TAKEN as well -/
def rz_T1 (T : Nat → Int32) (p k : Nat) : Nat → Int32 := fun q => if q = p then T q ||| nI (2 ^ k) else T q
noncomputable abbrev rz_EG (σ : ra_S) (len : Nat → Nat) (np nw p k : Nat) : rz_En := rz_mkE σ len (rz_lw0 σ) (rz_X0 σ) (rz_Y0 σ) (rz_T1 (σ.1 101) p k) (rz_S0 σ) (rz_H0 σ) false (rz_exf σ np nw 0 0 0 0 0)
theorem rz_p24 {k : Nat} (hk : k < 4) : 2 ^ k ≤ 8 := by
  rcases (show k = 0 ∨ k = 1 ∨ k = 2 ∨ k = 3 by omega) with rfl | rfl | rfl | rfl <;> decide
/-- takeAlso after fill -/
theorem rz_takeAlso {τ : ra_S} {p : Nat} (hp : p < 8) (x : Int32) : ra_C 1 [.ref 62, .int (nI p), .int x] τ = ra_V (ra_ui τ 66 p (τ.1 66 p ||| x)) := by
  rw [e_1, e_9, if_neg (nI_pos (by omega)), show (8 : Int32) = nI 8 from rfl, rz_il (by omega) hp, ra_kI, if_neg (by decide), rz_ig (by omega) (by omega), rz_ig (by omega) (by omega), nI_clamp (by omega)]
theorem rz_hold {np nb nl nw : Nat} {len : Nat → Nat} {σ τ : ra_S} (hB : rz_base np nb nl nw len σ) (hf : rz_ft σ τ) (hnb : 0 < nb) {p k : Nat} (hp : p < np) (hk : k < 4) (a : Int32) (ha : 0 ≤ a.toInt ∧ a.toInt ≤ 9999) : ∃ υ : ra_S, ra_C 91 [.ref 0, .int (nI p), .int (nI (2 ^ k)), .int a] τ = ra_I (if rz_ver (rz_e (rz_EG σ len np nw p k) np) (fun n => (rz_sum len n : Int)) np nb a.toInt = 0 then 1 else 0) υ ∧ rz_ft σ υ := by
  have c3 := hB.1.1.2.2
  obtain ⟨υ, e, f1, fit, g1, g2, g3, g4, g5, g6, g7⟩ := rz_fillF hB hf
  have f2 : rz_ft σ (ra_ui υ 66 p (υ.1 66 p ||| nI (2 ^ k))) := f1.ui (by omega)
  have fit2 : rz_fitC np nl (rz_lw0 σ) (rz_X0 σ) (rz_Y0 σ) (rz_T1 (σ.1 101) p k) (rz_S0 σ) (rz_H0 σ) false (ra_ui υ 66 p (υ.1 66 p ||| nI (2 ^ k))) := by
    intro q hq
    obtain ⟨k1, k2, k3, k4, k5, k6, k7, k8⟩ := fit q hq
    refine ⟨by rw [ra_ui_1 65 (by decide)]; exact k1, k2, by rw [ra_ui_1 63 (by decide)]; exact k3, by rw [ra_ui_1 64 (by decide)]; exact k4, k5, k6, fun j hj => ?_, by rw [ra_ui_1 67 (by decide), ra_ui_1 68 (by decide)]; exact k8⟩
    rw [ra_ui_get, Bool.and_false, Bool.or_false]
    unfold rz_T1
    by_cases z : q = p
    · subst z; rw [if_pos ⟨rfl, rfl⟩, if_pos rfl, (g3 q hq).1]
    · rw [if_neg (fun w => z w.2), if_neg z, (g3 q hq).1]
  obtain ⟨υ2, e2, f3, k1, k2, k3, k4, k5⟩ := rz_goC hB f2 fit2 (xp := 0) (xb := 0) (s := 0) (j := 0) (xv := 0) (by omega) (by rw [ra_ui_1 62 (by decide)]; exact g7) (by omega) (by omega) (fun b q _ _ => rz_noX (nb := nb) (np := np) (by rw [ra_ui_1 62 (by decide)]; exact g6) b q) (Or.inl rfl)
  refine ⟨υ2, ?_, f3⟩
  rw [e_91, e, ra_kV, rz_takeAlso (by omega), ra_kV, e2, ra_kV, rz_c_ver (rz_TC_mk hB f3 k4) hnb a ha, ra_kI]
  have iff0 : (Int32.ofInt (rz_ver (rz_e (rz_EG σ len np nw p k) np) (fun n => (rz_sum len n : Int)) np nb a.toInt) = 0) ↔ rz_ver (rz_e (rz_EG σ len np nw p k) np) (fun n => (rz_sum len n : Int)) np nb a.toInt = 0 := by
    unfold rz_ver rz_vd
    (repeat' split) <;> decide
  by_cases z : rz_ver (rz_e (rz_EG σ len np nw p k) np) (fun n => (rz_sum len n : Int)) np nb a.toInt = 0
  · rw [if_pos z, if_pos (iff0.mpr z)]
  · rw [if_neg z, if_neg (fun y => z (iff0.mp y))]
/-- the first of m .. -/
def rz_first (G : Nat → Bool) : Nat → Nat → Option Nat
  | 0, _ => none
  | d + 1, m => if G m = true then some m else rz_first G d (m + 1)
def rz_gres (w : Int32) : Option Nat → Int32
  | none => -1
  | some m => if w = 0 then nI (m / 4) else nI (2 ^ (m % 4))
noncomputable def rz_G (σ : ra_S) (len : Nat → Nat) (np nb nw : Nat) (a : Int) (m : Nat) : Bool := !rz_bit (σ.1 101 (m / 4)) (m % 4) && decide (rz_ver (rz_e (rz_EG σ len np nw (m / 4) (m % 4)) np) (fun n => (rz_sum len n : Int)) np nb a = 0)
theorem rz_c_gl {np nb nl nw : Nat} {len : Nat → Nat} {σ : ra_S} (hB : rz_base np nb nl nw len σ) (hnb : 0 < nb) (a w : Int32) (ha : 0 ≤ a.toInt ∧ a.toInt ≤ 9999) : ∀ d m, m + d = 4 * np → 0 < d → ∀ τ : ra_S, rz_ft σ τ → ∃ υ : ra_S, ra_D (ra_lay, none, 99999, ra_m90) 69 [some (.ref 0), some (.int a), some (.int w), some (.int (nI (m / 4))), some (.int (nI (2 ^ (m % 4))))] [] τ = ra_I (rz_gres w (rz_first (rz_G σ len np nb nw a.toInt) d m)) υ ∧ rz_ft σ υ := by
  have c3 := hB.1.1.2.2
  intro d
  induction d with
  | zero => intro m hm h0; omega
  | succ d ih =>
    intro m hm _ τ hf
    have hp : m / 4 < np := by omega
    have hk : m % 4 < 4 := Nat.mod_lt _ (by omega)
    have k8 := rz_p24 hk
    have kp : 0 < 2 ^ (m % 4) := Nat.two_pow_pos _
    obtain ⟨t, ht⟩ := rz_p16 (hB.2.2.2.2.2.1 (m / 4) hp).2.2.2
    have e51 : τ.1 51 (m / 4) = nI t.val := by rw [hf.1 51 (by omega), (hB.2.2.2.2.2.1 (m / 4) hp).2.2.1, ht]
    have band := rz_b_and t ⟨m % 4, hk⟩
    have nxt : ∀ τ1 : ra_S, rz_ft σ τ1 → rz_first (rz_G σ len np nb nw a.toInt) (d + 1) m = rz_first (rz_G σ len np nb nw a.toInt) d (m + 1) → ∃ υ : ra_S, ra_D (ra_lay, none, 99999, ra_m90) 69 [some (.ref 0), some (.int a), some (.int w), some (.int (nI (m / 4))), some (.int (nI (2 ^ (m % 4)) * 2))] [] τ1 = ra_I (rz_gres w (rz_first (rz_G σ len np nb nw a.toInt) (d + 1) m)) υ ∧ rz_ft σ υ := by
      intro τ1 f1 ef
      rw [ef, show nI (2 ^ (m % 4)) * (2 : Int32) = nI (2 ^ (m % 4 + 1)) from pk_mul _ 2]
      by_cases z : m % 4 = 3
      · rw [e_90_69, z, if_pos (by decide), e_90_52, f1.1 16 (by omega), hB.1.1.1, nI_1]
        by_cases y : d = 0
        · subst y
          rw [rz_inl (by omega) (by omega)]
          exact ⟨τ1, rfl, f1⟩
        · rw [rz_il (by omega) (by omega)]
          have := ih (m + 1) (by omega) (by omega) τ1 f1
          rw [show (m + 1) / 4 = m / 4 + 1 by omega, show (m + 1) % 4 = 0 by omega] at this
          exact this
      · have := ih (m + 1) (by omega) (by omega) τ1 f1
        rw [show (m + 1) / 4 = m / 4 by omega, show (m + 1) % 4 = m % 4 + 1 by omega] at this
        exact this
    rw [e_90_69, if_neg (show ¬ (8 : Int32) < nI (2 ^ (m % 4)) from nI_nlt (a := 8) k8 (by omega)), e_68, if_neg (nI_pos (by omega)), show (8 : Int32) = nI 8 from rfl, rz_il (by omega) (by omega), rz_ig (by omega) (by omega), nI_clamp (by omega), ra_kI, e51]
    by_cases b : rz_bit (nI t.val) (m % 4) = true
    · have nb' : ¬ (nI t.val &&& nI (2 ^ (m % 4)) = (0 : Int32)) := fun q => by
        have : decide (nI t.val &&& nI (2 ^ (m % 4)) = (0 : Int32)) = true := decide_eq_true q
        rw [band] at this
        simp only [b] at this
        cases this
      rw [if_neg nb']
      exact nxt τ hf (by rw [rz_first, if_neg]; unfold rz_G; rw [ht, b]; simp)
    · have b' : rz_bit (nI t.val) (m % 4) = false := Bool.eq_false_iff.mpr b
      have nb' : nI t.val &&& nI (2 ^ (m % 4)) = (0 : Int32) := of_decide_eq_true (by rw [band]; simp only [b']; rfl)
      obtain ⟨υ, e, f1⟩ := rz_hold hB hf hnb hp hk a ha
      rw [if_pos nb', e, ra_kI]
      by_cases z : rz_ver (rz_e (rz_EG σ len np nw (m / 4) (m % 4)) np) (fun n => (rz_sum len n : Int)) np nb a.toInt = 0
      · have eg : rz_first (rz_G σ len np nb nw a.toInt) (d + 1) m = some m := by
          rw [rz_first, if_pos]; unfold rz_G; rw [ht, b', z]; rfl
        rw [if_pos z, if_neg (by decide), eg]
        refine ⟨υ, ?_, f1⟩
        unfold rz_gres
        split <;> rfl
      · rw [if_neg z, if_pos rfl]
        exact nxt υ f1 (by rw [rz_first, if_neg]; unfold rz_G; rw [decide_eq_false z, Bool.and_false]; decide)
set_option maxHeartbeats 2000000 in
theorem rz_m_gl {np nb nl nw : Nat} {len : Nat → Nat} {σ : ra_S} (hB : rz_base np nb nl nw len σ) (hnb : 0 < nb) (a w : Int32) (ha : 0 ≤ a.toInt ∧ a.toInt ≤ 9999) : ∀ d m, m + d = 4 * np → 0 < d → ∀ (τ : ra_S) (o5 : Option Value), rz_ft σ τ → ∃ υ : ra_S, ra_D (ra_lay, none, 99999, ra_m198) 62 [some (.ref 86), some (.int a), some (.int w), some (.int (nI (m / 4))), some (.int (nI (m % 4))), o5] [] τ = ra_I (rz_gres w (rz_first (rz_G σ len np nb nw a.toInt) d m)) υ ∧ rz_ft σ υ := by
  have c3 := hB.1.1.2.2
  intro d
  induction d with
  | zero => intro m hm h0; omega
  | succ d ih =>
    intro m hm _ τ o5 hf
    have hp : m / 4 < np := by omega
    have hk : m % 4 < 4 := Nat.mod_lt _ (by omega)
    obtain ⟨t, ht⟩ := rz_p16 (hB.2.2.2.2.2.1 (m / 4) hp).2.2.2
    have e101 : τ.1 101 (m / 4) = nI t.val := by rw [hf.1 101 (by omega), ht]
    have bxor := fun j hj => rz_b_xor t ⟨m % 4, hk⟩ ⟨j, hj⟩
    have bxx := rz_b_xx t ⟨m % 4, hk⟩
    have bsh := rz_b_sh ⟨m % 4, hk⟩
    dsimp only at bxor bxx bsh
    have nxt : ∀ (τ1 : ra_S) (o5 : Option Value), rz_ft σ τ1 → rz_first (rz_G σ len np nb nw a.toInt) (d + 1) m = rz_first (rz_G σ len np nb nw a.toInt) d (m + 1) → ∃ υ : ra_S, ra_D (ra_lay, none, 99999, ra_m198) 62 [some (.ref 86), some (.int a), some (.int w), some (.int (nI (m / 4))), some (.int (nI (m % 4 + 1))), o5] [] τ1 = ra_I (rz_gres w (rz_first (rz_G σ len np nb nw a.toInt) (d + 1) m)) υ ∧ rz_ft σ υ := by
      intro τ1 o5 f1 ef
      rw [ef]
      by_cases z : m % 4 = 3
      · rw [e_198_62, z, if_neg (by decide), e_198_51, f1.2 14 (by decide), hB.1.1.2.1, nI_1]
        by_cases y : d = 0
        · subst y
          rw [rz_inl (by omega) (by omega)]
          exact ⟨τ1, rfl, f1⟩
        · rw [rz_il (by omega) (by omega)]
          have := ih (m + 1) (by omega) (by omega) τ1 o5 f1
          rw [show (m + 1) / 4 = m / 4 + 1 by omega, show (m + 1) % 4 = 0 by omega] at this
          exact this
      · have := ih (m + 1) (by omega) (by omega) τ1 o5 f1
        rw [show (m + 1) / 4 = m / 4 by omega, show (m + 1) % 4 = m % 4 + 1 by omega] at this
        exact this
    rw [e_198_62, show (4 : Int32) = nI 4 from rfl, rz_il (by omega) (by omega), rz_ig (by omega) (by omega), nI_clamp (by omega), rz_m_bit, ra_kI, e101]
    by_cases b : rz_bit (nI t.val) (m % 4) = true
    · rw [if_pos b, if_neg (by decide), nI_1]
      exact nxt τ o5 hf (by rw [rz_first, if_neg]; unfold rz_G; rw [ht, b]; simp)
    · have b' : rz_bit (nI t.val) (m % 4) = false := Bool.eq_false_iff.mpr b
      generalize hτ2 : ra_ui τ 101 (m / 4) (nI t.val ^^^ ((1 : Int32) <<< (nI (m % 4) &&& 31))) = τ2
      have fr : ∀ c, c ≠ 101 → τ2.1 c = τ.1 c := fun c hc => by rw [← hτ2, ra_ui_1 c hc]
      have f101 : ∀ q, τ2.1 101 q = if q = m / 4 then nI t.val ^^^ ((1 : Int32) <<< (nI (m % 4) &&& 31)) else σ.1 101 q := fun q => by
        rw [← hτ2, ra_ui_get, hf.1 101 (by omega)]
        by_cases z : q = m / 4
        · rw [if_pos z, if_pos ⟨rfl, z⟩]
        · rw [if_neg z, if_neg (fun y => z y.2)]
      have st : τ2.1 86 39 = -1 := by rw [fr 86 (by decide), hf.2 39 (by decide)]; exact hB.2.2.2.2.2.2.1
      have fit : rz_fitM np nl (rz_lw0 σ) (rz_X0 σ) (rz_Y0 σ) (rz_T1 (σ.1 101) (m / 4) (m % 4)) (rz_S0 σ) (rz_H0 σ) false σ τ2 := by
        obtain ⟨-, k1, k2, k3, k4, k5⟩ := rz_fitM_ft hB hf
        refine ⟨by rw [st]; rfl, by rw [fr 91 (by decide)]; exact k1, by rw [fr 89 (by decide)]; exact k2, by rw [fr 86 (by decide)]; exact k3, by rw [fr 86 (by decide)]; exact k4, fun q hq => ?_⟩
        obtain ⟨l1, l2, l3, l4, l5, l6, l7, l8, l9⟩ := k5 q hq
        rw [fr 93 (by decide)]
        refine ⟨l1, l2, l3, l4, l5, l6, l7, fun j hj => ?_, fun q' hq' => ?_⟩
        · rw [f101]
          unfold rz_T1
          by_cases z : q = m / 4
          · rw [if_pos z, if_pos z, z, ht]; exact bxor j hj b'
          · rw [if_neg z, if_neg z]
        · rw [rz_on_eq (fr 86 (by decide)), fr 94 (by decide), fr 95 (by decide)]
          exact l9 q' hq'
      have mw : rz_MW (rz_fw σ) nw τ2 := by
        have := rz_MW_ft hB hf
        unfold rz_MW at this ⊢
        rw [fr 86 (by decide), fr 96 (by decide)]
        exact this
      obtain ⟨υ, e, k1, k2, k3, k4⟩ := rz_goM hB fit (xp := 0) (xb := 0) (s := 0) (j := 0) (xv := 0) (by omega) (by omega) (by omega) (Or.inl ⟨mw, rfl⟩) (Or.inl ⟨by rw [fr 86 (by decide), hf.2 41 (by decide)]; exact hB.2.2.2.2.2.2.2.2.1, rfl⟩)
      have tm := rz_TM_mk hB (υ := υ) (by rw [k1 86 (by decide), fr 86 (by decide)]; exact hf.2 14 (by decide)) (by rw [k1 86 (by decide), fr 86 (by decide)]; exact hf.2 12 (by decide)) (by rw [k1 89 (by decide), fr 89 (by decide)]; exact hf.1 89 (by omega)) (fun b p hb hp => k3 b p hb hp (rz_on_all st p))
      have e101' : υ.1 101 (m / 4) = nI t.val ^^^ ((1 : Int32) <<< (nI (m % 4) &&& 31)) := by rw [k1 101 (by decide), f101, if_pos rfl]
      have fu : rz_ft σ (ra_ui υ 101 (m / 4) (nI t.val)) := by
        refine ⟨fun c hc => ?_, fun k hk => ?_⟩
        · by_cases z : c = 101
          · subst z
            funext q
            rw [ra_ui_get, k1 101 (by decide), f101]
            by_cases y : q = m / 4
            · rw [if_pos ⟨rfl, y⟩, y, ht]
            · rw [if_neg (fun x => y x.2), if_neg y]
          · rw [ra_ui_1 c z, k1 c (by omega), fr c z]; exact hf.1 c hc
        · rw [ra_ui_1 86 (by decide), k1 86 (by decide), fr 86 (by decide)]; exact hf.2 k hk
      rw [if_neg b, if_pos rfl, rz_ig (by omega) (by omega), rz_ig (by omega) (by omega), e, ra_kV, rz_m_ver tm hnb a ha, ra_kI, rz_ig (by omega) (by omega), rz_ig (by omega) (by omega), e101', bxx, bsh]
      have iff0 : (Int32.ofInt (rz_ver (rz_e (rz_EG σ len np nw (m / 4) (m % 4)) np) (fun n => (rz_sum len n : Int)) np nb a.toInt) = 0) ↔ rz_ver (rz_e (rz_EG σ len np nw (m / 4) (m % 4)) np) (fun n => (rz_sum len n : Int)) np nb a.toInt = 0 := by
        unfold rz_ver rz_vd
        (repeat' split) <;> decide
      by_cases z : rz_ver (rz_e (rz_EG σ len np nw (m / 4) (m % 4)) np) (fun n => (rz_sum len n : Int)) np nb a.toInt = 0
      · have eg : rz_first (rz_G σ len np nb nw a.toInt) (d + 1) m = some m := by
          rw [rz_first, if_pos]; unfold rz_G; rw [ht, b', z]; rfl
        rw [if_pos (iff0.mpr z), eg]
        refine ⟨_, ?_, fu⟩
        unfold rz_gres
        split <;> rfl
      · rw [if_neg (fun y => z (iff0.mp y)), nI_1]
        exact nxt _ _ fu (by rw [rz_first, if_neg]; unfold rz_G; rw [decide_eq_false z, Bool.and_false]; decide)
theorem rz_guilty {σ : ra_S} (h : rz_R σ) (a w : Int32) : rz_OI 90 198 [.int a, .int w] σ := by
  obtain ⟨np, nb, nl, nw, len, hB⟩ := rz_base_of h
  have f0 := rz_ft.rf σ
  have f0' := f0.u2 (x := 0)
  have c3 := hB.1.1.2.2
  obtain ⟨c4, c5, c6⟩ := hB.1.2.1
  by_cases z : nb = 0
  · subst z
    refine ⟨-1, σ, ra_ui σ 86 2 0, ?_, ?_, rz_R_ft f0' h⟩
    · rw [e_90, c4]; rfl
    · rw [e_198, c5]; rfl
  have nz : ¬ nI nb = 0 := nI_ne0 (by omega) (by omega)
  by_cases v2 : 0 ≤ a.toInt ∧ a.toInt ≤ 9999
  · by_cases v3 : 0 ≤ w.toInt ∧ w.toInt ≤ 1
    · obtain ⟨υ, e1, f1, t1, -⟩ := rz_asC hB f0
      have iff0 : (Int32.ofInt (rz_ver (rz_e (rz_EP σ len np nw) np) (fun n => (rz_sum len n : Int)) np nb a.toInt) = 0) ↔ rz_ver (rz_e (rz_EP σ len np nw) np) (fun n => (rz_sum len n : Int)) np nb a.toInt = 0 := by
        unfold rz_ver rz_vd
        (repeat' split) <;> decide
      by_cases y : rz_ver (rz_e (rz_EP σ len np nw) np) (fun n => (rz_sum len n : Int)) np nb a.toInt = 0
      · obtain ⟨υ2, e2, f2, t2⟩ := rz_asM hB (f1.u2 (x := 0))
        refine ⟨-2, υ, υ2, ?_, ?_, rz_R_ft f2 h⟩
        · rw [e_90, c4, if_neg nz, ra_c_isOff, ra_kI, rz_t v2, rz_c_in _ _ 0 1 rfl rfl, ra_kI, rz_t v3, e1, ra_kV, rz_c_ver t1 (by omega) a v2, ra_kI, if_pos (iff0.mpr y)]
        · rw [e_198, f1.2 12 (by decide), c5, if_neg nz, rz_m_in _ _ 0 9999 rfl rfl, ra_kI, rz_t v2, rz_m_in _ _ 0 1 rfl rfl, ra_kI, rz_t v3, e2, ra_kV, rz_m_ver t2 (by omega) a v2, ra_kI, if_pos (iff0.mpr y)]
      · have hC : ∃ υ3 : ra_S, ra_C 90 [.ref 0, .int a, .int w] σ = ra_I (rz_gres w (rz_first (rz_G σ len np nb nw a.toInt) (4 * np) 0)) υ3 ∧ rz_ft σ υ3 := by
          rw [e_90, c4, if_neg nz, ra_c_isOff, ra_kI, rz_t v2, rz_c_in _ _ 0 1 rfl rfl, ra_kI, rz_t v3, e1, ra_kV, rz_c_ver t1 (by omega) a v2, ra_kI, if_neg (fun x => y (iff0.mp x)), e_90_52, f1.1 16 (by omega), hB.1.1.1]
          by_cases x : np = 0
          · subst x
            rw [if_neg (by decide)]
            exact ⟨υ, rfl, f1⟩
          · rw [show (0 : Int32) = nI 0 from rfl, rz_il (by omega) (by omega)]
            exact rz_c_gl hB (by omega) a w v2 (4 * np) 0 (by omega) (by omega) υ f1
        obtain ⟨υ3, e3, f3⟩ := hC
        obtain ⟨υ2, e2, f2, t2⟩ := rz_asM hB (f3.u2 (x := 0))
        have hM : ∃ υ4 : ra_S, ra_C 198 [.ref 86, .int a, .int w] υ3 = ra_I (rz_gres w (rz_first (rz_G σ len np nb nw a.toInt) (4 * np) 0)) υ4 ∧ rz_ft σ υ4 := by
          rw [e_198, f3.2 12 (by decide), c5, if_neg nz, rz_m_in _ _ 0 9999 rfl rfl, ra_kI, rz_t v2, rz_m_in _ _ 0 1 rfl rfl, ra_kI, rz_t v3, e2, ra_kV, rz_m_ver t2 (by omega) a v2, ra_kI, if_neg (fun x => y (iff0.mp x)), e_198_51, f2.2 14 (by decide), hB.1.1.2.1]
          by_cases x : np = 0
          · subst x
            rw [if_neg (by decide)]
            exact ⟨υ2, rfl, f2⟩
          · rw [show (0 : Int32) = nI 0 from rfl, rz_il (by omega) (by omega)]
            exact rz_m_gl hB (by omega) a w v2 (4 * np) 0 (by omega) (by omega) υ2 none f2
        obtain ⟨υ4, e4, f4⟩ := hM
        exact ⟨_, υ3, υ4, e3, e4, rz_R_ft f4 h⟩
    · refine ⟨-1, σ, ra_ui σ 86 2 0, ?_, ?_, rz_R_ft f0' h⟩
      · rw [e_90, c4, if_neg nz, ra_c_isOff, ra_kI, rz_t v2, rz_c_in _ _ 0 1 rfl rfl, ra_kI, rz_f v3]
      · rw [e_198, c5, if_neg nz, rz_m_in _ _ 0 9999 rfl rfl, ra_kI, rz_t v2, rz_m_in _ _ 0 1 rfl rfl, ra_kI, rz_f v3]
  · refine ⟨-1, σ, ra_ui σ 86 2 0, ?_, ?_, rz_R_ft f0' h⟩
    · rw [e_90, c4, if_neg nz, ra_c_isOff, ra_kI, rz_f v2]
    · rw [e_198, c5, if_neg nz, rz_m_in _ _ 0 9999 rfl rfl, ra_kI, rz_f v2]
