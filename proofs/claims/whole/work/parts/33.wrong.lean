-- ===== one wrong more: moved, far, ends, goes =====
/-- what calls may change when the wrongs' row is used behind its end -/
def rz_ft9 (nw : Nat) (σ τ : ra_S) : Prop := (∀ c, ¬ (c = 86 ∨ c = 96 ∨ c = 61 ∨ (62 ≤ c ∧ c ≤ 85 ∧ c ≠ 75) ∨ c = 102 ∨ c = 104 ∨ c = 105 ∨ (109 ≤ c ∧ c ≤ 114)) → τ.1 c = σ.1 c) ∧ (∀ k, k ≠ 2 → τ.1 86 k = σ.1 86 k) ∧ ∀ k, k < 3 * nw → τ.1 96 k = σ.1 96 k
theorem rz_R_96 {σ : ra_S} {g : Nat → Int32} {nw : Nat} (h15 : σ.1 86 15 = nI nw) (hn : nw ≤ 6) (hg : ∀ k, k < 3 * nw → g k = σ.1 96 k) (hR : rz_R σ) : rz_R (fun a => if a = 96 then g else σ.1 a, σ.2) := by
  obtain ⟨np, nb, nl, nw', ku, tp, nn, tc, h1, h2, h3, h4, h5, h6, h7, h8, h9, h10⟩ := hR
  have e : nw' = nw := by
    have a := h1.2.2.2.1.2.1
    rw [h15] at a
    exact ((nI_eq (by omega) (by have := h1.2.2.2.1.2.2; omega)).mp a).symm
  subst e
  refine ⟨np, nb, nl, nw', ku, tp, nn, tc, h1, h2, h3, h4, fun w hw => ?_, h6, h7, h8, h9, h10⟩
  have := h5 w hw
  show (∃ p, p < np ∧ σ.1 26 w = nI p ∧ g (3 * w) = nI p) ∧ (∃ n, n < 40 ∧ σ.1 27 w = nI n ∧ g (3 * w + 1) = nI n) ∧ σ.1 28 w = g (3 * w + 2) ∧ rz_in (g (3 * w + 2)) (-2000) 2000
  rw [hg _ (by omega), hg _ (by omega), hg _ (by omega)]
  exact this
theorem rz_R_ft9 {σ τ : ra_S} {nw : Nat} (h15 : σ.1 86 15 = nI nw) (hn : nw ≤ 6) (h : rz_ft9 nw σ τ) (hR : rz_R σ) : rz_R τ := by
  refine rz_R_eq (fun c k hp => ?_) (rz_R_96 h15 hn h.2.2 hR)
  obtain ⟨h1, h2⟩ := rz_P_out hp
  by_cases q : c = 86
  · subst q; rw [h.2.1 k (fun z => h2 ⟨rfl, z⟩)]; rfl
  · by_cases q2 : c = 96
    · subst q2; rfl
    · rw [h.1 c (by omega)]
      show σ.1 c k = (if c = 96 then τ.1 96 else σ.1 c) k
      rw [if_neg q2]
noncomputable abbrev rz_EX (σ : ra_S) (len : Nat → Nat) (np nw xp xb : Nat) (xv : Int) : rz_En := rz_mkE σ len (rz_lw0 σ) (rz_X0 σ) (rz_Y0 σ) (σ.1 101) (rz_S0 σ) (rz_H0 σ) false (rz_exf σ np nw xp xb xv 0 0)
theorem rz_pwC {np nb nl nw : Nat} {len : Nat → Nat} {σ τ : ra_S} (hB : rz_base np nb nl nw len σ) (hf : rz_ft σ τ) {xp xb : Nat} {v : Int32} (hxp : xp < np) (hxb : xb < nb) (hv : -2000 ≤ v.toInt ∧ v.toInt ≤ 2000) : ∃ υ : ra_S, ra_C 108 [.ref 0, .int (nI xp), .int (nI xb), .int v] τ = ra_V υ ∧ rz_ft σ υ ∧ ∀ b p, b < nb → p < np → υ.1 73 (8 * b + p) = Int32.ofInt (rz_e (rz_EX σ len np nw xp xb v.toInt) np b p) ∧ υ.1 78 (8 * b + p) = Int32.ofInt (rz_e (rz_EP σ len np nw) np b p) := by
  have c3 := hB.1.1.2.2
  have c6 := hB.1.2.1.2.2
  obtain ⟨υ, e, f1, fit, g1, g2, g3, g4, g5, g6, g7⟩ := rz_fillF hB hf
  obtain ⟨υ2, e2, f2, k1, k2, k3, k4, k5⟩ := rz_goCb hB f1 fit (xp := 0) (xb := 0) (s := 0) (j := 0) (xv := 0) (by omega) g7 (by omega) (by omega) (fun b p _ _ => rz_noX (nb := nb) (np := np) g6 b p) (Or.inl rfl)
  generalize hτ : ra_ui (ra_ui (ra_ui υ2 62 9 (nI xp)) 62 10 (nI xb)) 62 11 v = υ3
  have fr : ∀ c, c ≠ 62 → υ3.1 c = υ2.1 c := fun c hc => by rw [← hτ, ra_ui_1 c hc, ra_ui_1 c hc, ra_ui_1 c hc]
  have f3 : rz_ft σ υ3 := rz_ft.of f2 (fun c hc => fr c (by omega))
  have q9 : υ3.1 62 9 = nI xp := by rw [← hτ]; simp only [ra_ui_get, Nat.reduceEqDiff, and_false, and_self, if_false, if_true]
  have q10 : υ3.1 62 10 = nI xb := by rw [← hτ]; simp only [ra_ui_get, Nat.reduceEqDiff, and_false, and_self, if_false, if_true]
  have q11 : υ3.1 62 11 = v := by rw [← hτ]; simp only [ra_ui_get, and_self, if_true]
  have q12 : υ3.1 62 12 = 0 := by rw [← hτ]; simp only [ra_ui_get, Nat.reduceEqDiff, and_false, if_false]; rw [k2 12 (by decide)]; exact g7
  have fit3 : rz_fitC np nl (rz_lw0 σ) (rz_X0 σ) (rz_Y0 σ) (σ.1 101) (rz_S0 σ) (rz_H0 σ) false υ3 := by
    intro q hq
    rw [fr 65 (by decide), fr 63 (by decide), fr 64 (by decide), fr 66 (by decide), fr 67 (by decide), fr 68 (by decide), k1 65 (by decide), k1 63 (by decide), k1 64 (by decide), k1 66 (by decide), k1 67 (by decide), k1 68 (by decide)]
    exact fit q hq
  obtain ⟨υ4, e4, f4, m1, m2, m3, m4, m5⟩ := rz_goC hB f3 fit3 (xp := xp) (xb := xb) (s := 0) (j := 0) (xv := v.toInt) hv q12 (by omega) (by omega) (fun b p hb hp => by
    rw [q9, q10, q11]
    by_cases z1 : xp = p
    · subst z1
      rw [rz_ie rfl]
      by_cases z2 : xb = b
      · subst z2; rw [rz_ie rfl, if_pos ⟨rfl, rfl⟩, rz_ofI]
      · rw [rz_ine (by omega) (by omega) (fun y => z2 y.symm), if_neg (fun y => z2 y.2)]; rfl
    · rw [rz_ine (by omega) (by omega) (fun y => z1 y.symm), if_neg (fun y => z1 y.1)]; rfl) (Or.inl rfl)
  refine ⟨υ4, by rw [e_108, e, ra_kV, e2, ra_kV, hτ, e4, ra_kV], f4, fun b p hb hp => ⟨m4 b p hb hp, ?_⟩⟩
  rw [m1 78 (by decide), fr 78 (by decide), k4 b p hb hp]
set_option maxHeartbeats 2000000 in
theorem rz_pwM {np nb nl nw : Nat} {len : Nat → Nat} {σ τ : ra_S} (hB : rz_base np nb nl nw len σ) (hf : rz_ft σ τ) {xp xb : Nat} {v : Int32} (hxp : xp < np) (hxb : xb < nb) (hv : v ≠ 0 ∧ -2000 ≤ v.toInt ∧ v.toInt ≤ 2000) : ∃ υ : ra_S, ra_C 211 [.ref 86, .int (nI xp), .int (nI xb), .int v] τ = ra_I 1 υ ∧ rz_ft9 nw σ υ ∧ ∀ b p, b < nb → p < np → υ.1 102 (8 * b + p) = Int32.ofInt (rz_e (rz_EX σ len np nw xp xb v.toInt) np b p) ∧ υ.1 105 (8 * b + p) = Int32.ofInt (rz_e (rz_EP σ len np nw) np b p) := by
  have c3 := hB.1.1.2.2
  have c6 := hB.1.2.1.2.2
  obtain ⟨-, w2, w3⟩ := hB.1.2.2.2.1
  obtain ⟨υ, e, f1, t1⟩ := rz_asM hB hf
  have copy : ∀ d k, k + d = 320 → ∀ τ1 : ra_S, (∀ c, c ≠ 105 → τ1.1 c = υ.1 c) → (∀ i, i < k → τ1.1 105 i = υ.1 102 i) → ∃ τ2 : ra_S, ra_D (ra_lay, none, 99999, ra_m211) 42 [some (.ref 86), some (.int (nI xp)), some (.int (nI xb)), some (.int v), some (.int (nI k))] [] τ1 = ra_D (ra_lay, none, 99999, ra_m211) 42 [some (.ref 86), some (.int (nI xp)), some (.int (nI xb)), some (.int v), some (.int (nI 320))] [] τ2 ∧ (∀ c, c ≠ 105 → τ2.1 c = υ.1 c) ∧ (∀ i, i < 320 → τ2.1 105 i = υ.1 102 i) := by
    intro d
    induction d with
    | zero => intro k hk τ1 h1 h2; have : k = 320 := by omega
              subst this; exact ⟨τ1, rfl, h1, h2⟩
    | succ d ih =>
      intro k hk τ1 h1 h2
      rw [e_211_42, show (320 : Int32) = nI 320 from rfl, rz_il (by omega) (by omega), rz_ig (by omega) (by omega), rz_ig (by omega) (by omega), nI_clamp (by omega), nI_1]
      refine ih (k + 1) (by omega) _ (fun c hc => by rw [ra_ui_1 c hc]; exact h1 c hc) (fun i hi => ?_)
      rw [ra_ui_get, h1 102 (by decide)]
      by_cases y : i = k
      · rw [if_pos ⟨rfl, y⟩, y]
      · rw [if_neg (fun x => y x.2)]; exact h2 i (by omega)
  obtain ⟨τ2, e2, h1, h2⟩ := copy 320 0 (by omega) υ (fun _ _ => rfl) (fun i hi => by omega)
  have f2 : rz_ft σ τ2 := rz_ft.of f1 (fun c hc => h1 c (by omega))
  have e15 : τ2.1 86 15 = nI nw := by rw [f2.2 15 (by decide)]; exact w2
  generalize hτ : ra_ui (ra_ui (ra_ui (ra_ui τ2 96 (3 * nw) (nI xp)) 96 (3 * nw + 1) (nI xb)) 96 (3 * nw + 2) v) 86 15 (nI (nw + 1)) = τ3
  have fr : ∀ c, c ≠ 96 → c ≠ 86 → τ3.1 c = τ2.1 c := fun c hc hd => by rw [← hτ, ra_ui_1 c hd, ra_ui_1 c hc, ra_ui_1 c hc, ra_ui_1 c hc]
  have fr86 : ∀ k, k ≠ 15 → τ3.1 86 k = τ2.1 86 k := fun k hk => by rw [← hτ, ra_ui_get, if_neg (fun x => hk x.2), ra_ui_1 86 (by decide), ra_ui_1 86 (by decide), ra_ui_1 86 (by decide)]
  have fr96 : ∀ k, τ3.1 96 k = if k = 3 * nw + 2 then v else if k = 3 * nw + 1 then nI xb else if k = 3 * nw then nI xp else τ2.1 96 k := fun k => by
    rw [← hτ]; simp only [ra_ui_get, true_and, Nat.reduceEqDiff, false_and, if_false]
  have st : τ3.1 86 39 = -1 := by rw [fr86 39 (by decide), f2.2 39 (by decide)]; exact hB.2.2.2.2.2.2.1
  have fit : rz_fitM np nl (rz_lw0 σ) (rz_X0 σ) (rz_Y0 σ) (σ.1 101) (rz_S0 σ) (rz_H0 σ) false σ τ3 := by
    obtain ⟨-, k1, k2, k3, k4, k5⟩ := rz_fitM_ft hB f2
    refine ⟨by rw [st]; rfl, by rw [fr 91 (by decide) (by decide)]; exact k1, by rw [fr 89 (by decide) (by decide)]; exact k2, by rw [fr86 14 (by decide)]; exact k3, by rw [fr86 12 (by decide)]; exact k4, fun q hq => ?_⟩
    rw [fr 93 (by decide) (by decide), fr 101 (by decide) (by decide), fr 94 (by decide) (by decide), fr 95 (by decide) (by decide)]
    obtain ⟨l1, l2, l3, l4, l5, l6, l7, l8, l9⟩ := k5 q hq
    refine ⟨l1, l2, l3, l4, l5, l6, l7, l8, fun q' hq' => ?_⟩
    have := l9 q' hq'
    rw [rz_on_all (by rw [f2.2 39 (by decide)]; exact hB.2.2.2.2.2.2.1)] at this
    rw [rz_on_all st]
    exact this
  have mw : rz_MW (rz_fx σ nw xp xb v.toInt) (nw + 1) τ3 := by
    obtain ⟨m1, m2, m3⟩ := rz_MW_ft hB f2
    refine ⟨by rw [← hτ, ra_ui_get, if_pos ⟨rfl, rfl⟩], by omega, fun w hw => ?_⟩
    unfold rz_fx
    by_cases z : w = nw
    · subst z
      rw [if_pos rfl, fr96, fr96, fr96]
      dsimp only
      rw [if_neg (by omega), if_neg (by omega), if_pos rfl, if_neg (by omega), if_pos rfl, if_pos rfl, rz_ofI]
      exact ⟨rfl, rfl, rfl, by omega, by omega, hv.2.1, hv.2.2⟩
    · rw [if_neg z, fr96, fr96, fr96]
      rw [if_neg (by omega), if_neg (by omega), if_neg (by omega), if_neg (by omega), if_neg (by omega), if_neg (by omega), if_neg (by omega), if_neg (by omega), if_neg (by omega)]
      exact m3 w (by omega)
  obtain ⟨υ4, e4, k1, k2, k3, k4⟩ := rz_goM hB fit (xp := xp) (xb := xb) (s := 0) (j := 0) (xv := v.toInt) hv.2 (by omega) (by omega) (Or.inr mw) (Or.inl ⟨by rw [fr86 41 (by decide), f2.2 41 (by decide)]; exact hB.2.2.2.2.2.2.2.2.1, rfl⟩)
  refine ⟨ra_ui υ4 86 15 (nI nw), ?_, ⟨fun c hc => ?_, fun k hk => ?_, fun k hk => ?_⟩, fun b p hb hp => ⟨?_, ?_⟩⟩
  · have v1 : 0 ≤ (nI xp).toInt ∧ (nI xp).toInt < np := rz_gd (by omega) (by omega)
    have v2 : 0 ≤ (nI xb).toInt ∧ (nI xb).toInt < nb := rz_gd (by omega) (by omega)
    have i15 : υ4.1 86 15 = nI (nw + 1) := by rw [k1 86 (by decide)]; exact mw.1
    rw [e_211, rz_kPm hB hf, ra_kI, rz_t v1, rz_kBm hB hf, ra_kI, rz_t v2, rz_m_in _ _ (-2000) 2000 rfl rfl, ra_kI, rz_t hv.2, if_neg hv.1, e, ra_kV, show (0 : Int32) = nI 0 from rfl, e2, e_211_42, if_neg (by decide), e15, show (3 : Int32) * nI nw = nI (3 * nw) from pk_mul 3 nw, show nI (3 * nw) + (1 : Int32) = nI (3 * nw + 1) from nI_add _ 1, show nI (3 * nw) + (2 : Int32) = nI (3 * nw + 2) from nI_add _ 2, rz_ig (by omega) (by omega), rz_ig (by omega) (by omega), rz_ig (by omega) (by omega), nI_clamp (by omega), nI_clamp (by omega), nI_clamp (by omega), nI_1, hτ, e4, ra_kV, i15, nI_pred]
  · rw [ra_ui_1 c (by omega), k1 c (by omega), fr c (by omega) (by omega)]; exact f2.1 c (by omega)
  · by_cases z : k = 15
    · subst z; rw [ra_ui_get, if_pos ⟨rfl, rfl⟩, w2]
    · rw [ra_ui_get, if_neg (fun x => z x.2), k1 86 (by decide), fr86 k z]; exact f2.2 k hk
  · rw [ra_ui_1 96 (by decide), k1 96 (by decide), fr96, if_neg (by omega), if_neg (by omega), if_neg (by omega), f2.1 96 (by omega)]
  · rw [ra_ui_1 102 (by decide)]; exact k3 b p hb hp (rz_on_all st p)
  · rw [ra_ui_1 105 (by decide), k1 105 (by decide), fr 105 (by decide) (by decide), h2 _ (by omega)]
    exact (t1.2.2.2.2.2 b p hb hp).1
/-- what is asked of a wrong -/
def rz_Wp (np nb : Nat) (a b v : Int32) : Prop := (0 ≤ a.toInt ∧ a.toInt < np) ∧ (0 ≤ b.toInt ∧ b.toInt < nb) ∧ v ≠ 0 ∧ -2000 ≤ v.toInt ∧ v.toInt ≤ 2000
theorem rz_kWc {np nb nl nw : Nat} {len : Nat → Nat} {σ τ : ra_S} (hB : rz_base np nb nl nw len σ) (hf : rz_ft σ τ) (a b v : Int32) (h : ¬ rz_Wp np nb a b v) : ra_C 133 [.ref 0, .int a, .int b, .int v] τ = ra_I 0 τ := by
  unfold rz_Wp at h
  rw [ra_c_isWrong (by rw [hf.1 16 (by omega)]; exact hB.1.1.1) hB.1.1.2.2 (by rw [hf.1 10 (by omega)]; exact hB.1.2.1.1) hB.1.2.1.2.2, if_neg h]
theorem rz_kWc1 {np nb nl nw : Nat} {len : Nat → Nat} {σ τ : ra_S} (hB : rz_base np nb nl nw len σ) (hf : rz_ft σ τ) (a b v : Int32) (h : rz_Wp np nb a b v) : ra_C 133 [.ref 0, .int a, .int b, .int v] τ = ra_I 1 τ := by
  unfold rz_Wp at h
  rw [ra_c_isWrong (by rw [hf.1 16 (by omega)]; exact hB.1.1.1) hB.1.1.2.2 (by rw [hf.1 10 (by omega)]; exact hB.1.2.1.1) hB.1.2.1.2.2, if_pos h]
theorem rz_kWm {np nb nl nw : Nat} {len : Nat → Nat} {σ τ : ra_S} (hB : rz_base np nb nl nw len σ) (hf : rz_ft σ τ) (a b v : Int32) (h : ¬ rz_Wp np nb a b v) : ra_C 211 [.ref 86, .int a, .int b, .int v] τ = ra_I 0 τ := by
  rw [e_211, rz_kPm hB hf, ra_kI]
  by_cases v1 : 0 ≤ a.toInt ∧ a.toInt < np
  · rw [rz_t v1, rz_kBm hB hf, ra_kI]
    by_cases v2 : 0 ≤ b.toInt ∧ b.toInt < nb
    · rw [rz_t v2, rz_m_in _ _ (-2000) 2000 rfl rfl, ra_kI]
      by_cases v3 : -2000 ≤ v.toInt ∧ v.toInt ≤ 2000
      · rw [rz_t v3, if_pos]
        by_cases z : v = 0
        · exact z
        · exact absurd ⟨v1, v2, z, v3⟩ h
      · rw [rz_f v3]
    · rw [rz_f v2]
  · rw [rz_f v1]
def rz_ab (x : Int) : Int := if x < 0 then -x else x
theorem rz_ab_in {x : Int} (h : -2000000000 ≤ x ∧ x ≤ 2000000000) : 0 ≤ rz_ab x ∧ rz_ab x ≤ 2000000000 := by
  unfold rz_ab; split <;> omega
theorem rz_c_abs (σ : ra_S) {x : Int} (h : -2000000000 ≤ x ∧ x ≤ 2000000000) : ra_C 248 [.int (Int32.ofInt x)] σ = ra_I (Int32.ofInt (rz_ab x)) σ := by
  rw [e_248]
  unfold rz_ab
  by_cases z : x < 0
  · rw [if_pos z, if_pos (show Int32.ofInt x < 0 from (rz_oLt (b := 0) (by omega) (by omega) (by omega) (by omega)).mpr z), Int32.ofInt_neg]
  · rw [if_neg z, if_neg (show ¬ Int32.ofInt x < 0 from fun y => z ((rz_oLt (b := 0) (by omega) (by omega) (by omega) (by omega)).mp y))]
theorem rz_m_abs (σ : ra_S) {x : Int} (h : -2000000000 ≤ x ∧ x ≤ 2000000000) : ra_C 143 [.int (Int32.ofInt x)] σ = ra_I (Int32.ofInt (rz_ab x)) σ := by
  rw [e_143]
  unfold rz_ab
  by_cases z : x < 0
  · rw [if_pos z, if_pos (show Int32.ofInt x < 0 from (rz_oLt (b := 0) (by omega) (by omega) (by omega) (by omega)).mpr z), Int32.ofInt_neg]
  · rw [if_neg z, if_neg (show ¬ Int32.ofInt x < 0 from fun y => z ((rz_oLt (b := 0) (by omega) (by omega) (by omega) (by omega)).mp y))]
/-- two tables of entries on each side: by how much each is moved -/
def rz_DC (dv : Nat → Nat → Int) (np nb : Nat) (σ : ra_S) : Prop := σ.1 16 0 = nI np ∧ np ≤ 8 ∧ σ.1 10 5 = nI nb ∧ nb ≤ 40 ∧ ∀ b p, b < nb → p < np → σ.1 73 (8 * b + p) - σ.1 78 (8 * b + p) = Int32.ofInt (dv b p) ∧ -2000000000 ≤ dv b p ∧ dv b p ≤ 2000000000
def rz_DM (dv : Nat → Nat → Int) (np nb : Nat) (σ : ra_S) : Prop := σ.1 86 14 = nI np ∧ np ≤ 8 ∧ σ.1 86 12 = nI nb ∧ nb ≤ 40 ∧ ∀ b p, b < nb → p < np → σ.1 102 (8 * b + p) - σ.1 105 (8 * b + p) = Int32.ofInt (dv b p) ∧ -2000000000 ≤ dv b p ∧ dv b p ≤ 2000000000
theorem rz_c_mv {dv : Nat → Nat → Int} {np nb : Nat} {σ : ra_S} (h : rz_DC dv np nb σ) {b p : Nat} (hb : b < nb) (hp : p < np) : ra_C 109 [.ref 0, .int (nI p), .int (nI b)] σ = ra_I (Int32.ofInt (dv b p)) σ := by
  obtain ⟨-, h2, -, h4, h5⟩ := h
  rw [e_109, rz_c_at (by omega) (by omega), ra_kI, rz_c_atb (by omega) (by omega), ra_kI, (h5 b p hb hp).1]
theorem rz_m_mv {dv : Nat → Nat → Int} {np nb : Nat} {σ : ra_S} (h : rz_DM dv np nb σ) {b p : Nat} (hb : b < nb) (hp : p < np) : ra_C 212 [.ref 86, .int (nI p), .int (nI b)] σ = ra_I (Int32.ofInt (dv b p)) σ := by
  obtain ⟨-, h2, -, h4, h5⟩ := h
  rw [e_212, show (8 : Int32) * nI b = nI (8 * b) from pk_mul 8 b, nI_add, rz_ig (by omega) (by omega), rz_ig (by omega) (by omega), nI_clamp (by omega), (h5 b p hb hp).1]
def rz_far (g : Nat → Int) : Nat → Int
  | 0 => 0
  | n + 1 => if rz_far g n < rz_ab (g n) then rz_ab (g n) else rz_far g n
theorem rz_far_in {g : Nat → Int} : ∀ n, (∀ q, q < n → -2000000000 ≤ g q ∧ g q ≤ 2000000000) → 0 ≤ rz_far g n ∧ rz_far g n ≤ 2000000000
  | 0, _ => by unfold rz_far; omega
  | n + 1, h => by
    have i := rz_far_in n (fun q hq => h q (by omega))
    have j := rz_ab_in (h n (by omega))
    rw [rz_far]
    split <;> omega
theorem rz_c_far {dv : Nat → Nat → Int} {np nb : Nat} {σ : ra_S} (h : rz_DC dv np nb σ) {b : Nat} (hb : b < nb) : ra_C 110 [.ref 0, .int (nI b)] σ = ra_I (Int32.ofInt (rz_far (dv b) np)) σ := by
  obtain ⟨h1, h2, h3, h4, h5⟩ := id h
  have loop : ∀ d k, k + d = np → ra_D (ra_lay, none, 99999, ra_m110) 4 [some (.ref 0), some (.int (nI b)), some (.int (Int32.ofInt (rz_far (dv b) k))), some (.int (nI k))] [] σ = ra_I (Int32.ofInt (rz_far (dv b) np)) σ := by
    intro d
    induction d with
    | zero => intro k hk; have : k = np := by omega
              subst this; rw [e_110_4, h1, rz_inl (by omega) (by omega)]
    | succ d ih =>
      intro k hk
      have i := ih (k + 1) (by omega)
      have bd := (h5 b k hb (by omega)).2
      have fi := rz_far_in (g := dv b) k (fun q hq => (h5 b q hb (by omega)).2)
      have ai := rz_ab_in bd
      rw [rz_far] at i
      rw [e_110_4, h1, rz_il (by omega) (by omega), rz_c_mv h hb (by omega), ra_kI, rz_c_abs σ bd, ra_kI, rz_max47, ra_kI, nI_1, ← i]
      by_cases z : rz_far (dv b) k < rz_ab (dv b k)
      · rw [if_pos z, if_pos ((rz_oLt (by omega) (by omega) (by omega) (by omega)).mpr z)]
      · rw [if_neg z, if_neg (fun y => z ((rz_oLt (by omega) (by omega) (by omega) (by omega)).mp y))]
  rw [e_110]
  exact loop np 0 (by omega)
theorem rz_m_far {dv : Nat → Nat → Int} {np nb : Nat} {σ : ra_S} (h : rz_DM dv np nb σ) {b : Nat} (hb : b < nb) : ra_C 213 [.ref 86, .int (nI b)] σ = ra_I (Int32.ofInt (rz_far (dv b) np)) σ := by
  obtain ⟨h1, h2, h3, h4, h5⟩ := id h
  have loop : ∀ d k, k + d = np → ra_D (ra_lay, none, 99999, ra_m213) 4 [some (.ref 86), some (.int (nI b)), some (.int (Int32.ofInt (rz_far (dv b) k))), some (.int (nI k))] [] σ = ra_I (Int32.ofInt (rz_far (dv b) np)) σ := by
    intro d
    induction d with
    | zero => intro k hk; have : k = np := by omega
              subst this; rw [e_213_4, h1, rz_inl (by omega) (by omega)]
    | succ d ih =>
      intro k hk
      have i := ih (k + 1) (by omega)
      have bd := (h5 b k hb (by omega)).2
      have fi := rz_far_in (g := dv b) k (fun q hq => (h5 b q hb (by omega)).2)
      have ai := rz_ab_in bd
      rw [rz_far] at i
      rw [e_213_4, h1, rz_il (by omega) (by omega), rz_m_mv h hb (by omega), ra_kI, rz_m_abs σ bd, ra_kI, rz_m_mv h hb (by omega), ra_kI, rz_m_abs σ bd, ra_kI, nI_1, ← i]
      by_cases z : rz_far (dv b) k < rz_ab (dv b k)
      · rw [if_pos z, if_pos ((rz_oLt (by omega) (by omega) (by omega) (by omega)).mpr z)]
      · rw [if_neg z, if_neg (fun y => z ((rz_oLt (by omega) (by omega) (by omega) (by omega)).mp y))]
  rw [e_213]
  exact loop np 0 (by omega)
/-- both sides play with one wrong more -/
theorem rz_pw {np nb nl nw : Nat} {len : Nat → Nat} {σ : ra_S} (hB : rz_base np nb nl nw len σ) {a b v : Int32} (h : rz_Wp np nb a b v) : ∃ (dv : Nat → Nat → Int) (υ : ra_S), ra_C 108 [.ref 0, .int a, .int b, .int v] σ = ra_V υ ∧ rz_ft σ υ ∧ rz_DC dv np nb υ ∧ ∃ υ2 : ra_S, ra_C 211 [.ref 86, .int a, .int b, .int v] (ra_ui υ 86 2 0) = ra_I 1 υ2 ∧ rz_ft9 nw σ υ2 ∧ rz_DM dv np nb υ2 := by
  obtain ⟨⟨c1, c2, c3⟩, ⟨c4, c5, c6⟩, -⟩ := id hB.1
  obtain ⟨v1, v2, v3⟩ := id h
  obtain ⟨xp, hxp, rfl⟩ := rz_nat (by omega) v1
  obtain ⟨xb, hxb, rfl⟩ := rz_nat (by omega) v2
  obtain ⟨υ, e1, f1, t1⟩ := rz_pwC hB (rz_ft.rf σ) hxp hxb v3.2
  obtain ⟨υ2, e2, f2, t2⟩ := rz_pwM hB (f1.u2 (x := 0)) hxp hxb v3
  refine ⟨fun b p => rz_e (rz_EX σ len np nw xp xb v.toInt) np b p - rz_e (rz_EP σ len np nw) np b p, υ, e1, f1, ⟨by rw [f1.1 16 (by omega)]; exact c1, c3, by rw [f1.1 10 (by omega)]; exact c4, c6, fun b p hb hp => ?_⟩, υ2, e2, f2, ⟨by rw [f2.2.1 14 (by decide)]; exact c2, c3, by rw [f2.2.1 12 (by decide)]; exact c5, c6, fun b p hb hp => ?_⟩⟩
  · have i1 := rz_e_in (rz_EX σ len np nw xp xb v.toInt) np b p
    have i2 := rz_e_in (rz_EP σ len np nw) np b p
    rw [(t1 b p hb hp).1, (t1 b p hb hp).2, ← Int32.ofInt_sub]
    exact ⟨rfl, by dsimp only; omega, by dsimp only; omega⟩
  · have i1 := rz_e_in (rz_EX σ len np nw xp xb v.toInt) np b p
    have i2 := rz_e_in (rz_EP σ len np nw) np b p
    rw [(t2 b p hb hp).1, (t2 b p hb hp).2, ← Int32.ofInt_sub]
    exact ⟨rfl, by dsimp only; omega, by dsimp only; omega⟩
theorem rz_moved {σ : ra_S} (h : rz_R σ) (a b v p m : Int32) : rz_OI 104 214 [.int a, .int b, .int v, .int p, .int m] σ := by
  obtain ⟨np, nb, nl, nw, len, hB⟩ := rz_base_of h
  have f0 := rz_ft.rf σ
  have f0' := f0.u2 (x := 0)
  obtain ⟨⟨c1, c2, c3⟩, ⟨c4, c5, c6⟩, -, ⟨-, c7, c8⟩, -⟩ := id hB.1
  by_cases v1 : rz_Wp np nb a b v
  · by_cases v2 : 0 ≤ p.toInt ∧ p.toInt < np
    · by_cases v3 : 0 ≤ m.toInt ∧ m.toInt < nb
      · obtain ⟨dv, υ, e1, f1, t1, υ2, e2, f2, t2⟩ := rz_pw hB v1
        obtain ⟨q, hq, rfl⟩ := rz_nat (by omega) v2
        obtain ⟨n, hn, rfl⟩ := rz_nat (by omega) v3
        refine ⟨Int32.ofInt (dv n q), υ, υ2, ?_, ?_, rz_R_ft9 c7 c8 f2 h⟩
        · rw [e_104, rz_kWc1 hB f0 _ _ _ v1, ra_kI, if_neg (by decide), rz_kPc hB f0, ra_kI, rz_t v2, rz_kBc hB f0, ra_kI, rz_t v3, e1, ra_kV, rz_c_mv t1 hn hq, ra_kI]
        · rw [e_214, rz_kPm hB f1.u2, ra_kI, rz_t v2, rz_kBm hB f1.u2, ra_kI, rz_t v3, e2, ra_kI, if_neg (by decide), rz_m_mv t2 hn hq, ra_kI]
      · refine ⟨-2147483648, σ, ra_ui σ 86 2 0, ?_, ?_, rz_R_ft f0' h⟩
        · rw [e_104, rz_kWc1 hB f0 _ _ _ v1, ra_kI, if_neg (by decide), rz_kPc hB f0, ra_kI, rz_t v2, rz_kBc hB f0, ra_kI, rz_f v3]
        · rw [e_214, rz_kPm hB f0', ra_kI, rz_t v2, rz_kBm hB f0', ra_kI, rz_f v3]
    · refine ⟨-2147483648, σ, ra_ui σ 86 2 0, ?_, ?_, rz_R_ft f0' h⟩
      · rw [e_104, rz_kWc1 hB f0 _ _ _ v1, ra_kI, if_neg (by decide), rz_kPc hB f0, ra_kI, rz_f v2]
      · rw [e_214, rz_kPm hB f0', ra_kI, rz_f v2]
  · refine ⟨-2147483648, σ, ra_ui σ 86 2 0, ?_, ?_, rz_R_ft f0' h⟩
    · rw [e_104, rz_kWc hB f0 _ _ _ v1, ra_kI, if_pos rfl]
    · rw [e_214, rz_kPm hB f0', ra_kI]
      by_cases v2 : 0 ≤ p.toInt ∧ p.toInt < np
      · rw [rz_t v2, rz_kBm hB f0', ra_kI]
        by_cases v3 : 0 ≤ m.toInt ∧ m.toInt < nb
        · rw [rz_t v3, rz_kWm hB f0' _ _ _ v1, ra_kI, if_pos rfl]
        · rw [rz_f v3]
      · rw [rz_f v2]
theorem rz_farC {σ : ra_S} (h : rz_R σ) (a b v m : Int32) : rz_OI 105 215 [.int a, .int b, .int v, .int m] σ := by
  obtain ⟨np, nb, nl, nw, len, hB⟩ := rz_base_of h
  have f0 := rz_ft.rf σ
  have f0' := f0.u2 (x := 0)
  obtain ⟨⟨c1, c2, c3⟩, ⟨c4, c5, c6⟩, -, ⟨-, c7, c8⟩, -⟩ := id hB.1
  by_cases v1 : rz_Wp np nb a b v
  · by_cases v3 : 0 ≤ m.toInt ∧ m.toInt < nb
    · obtain ⟨dv, υ, e1, f1, t1, υ2, e2, f2, t2⟩ := rz_pw hB v1
      obtain ⟨n, hn, rfl⟩ := rz_nat (by omega) v3
      refine ⟨Int32.ofInt (rz_far (dv n) np), υ, υ2, ?_, ?_, rz_R_ft9 c7 c8 f2 h⟩
      · rw [e_105, rz_kWc1 hB f0 _ _ _ v1, ra_kI, if_neg (by decide), rz_kBc hB f0, ra_kI, rz_t v3, e1, ra_kV, rz_c_far t1 hn, ra_kI]
      · rw [e_215, rz_kBm hB f1.u2, ra_kI, rz_t v3, e2, ra_kI, if_neg (by decide), rz_m_far t2 hn, ra_kI]
    · refine ⟨-1, σ, ra_ui σ 86 2 0, ?_, ?_, rz_R_ft f0' h⟩
      · rw [e_105, rz_kWc1 hB f0 _ _ _ v1, ra_kI, if_neg (by decide), rz_kBc hB f0, ra_kI, rz_f v3]
      · rw [e_215, rz_kBm hB f0', ra_kI, rz_f v3]
  · refine ⟨-1, σ, ra_ui σ 86 2 0, ?_, ?_, rz_R_ft f0' h⟩
    · rw [e_105, rz_kWc hB f0 _ _ _ v1, ra_kI, if_pos rfl]
    · rw [e_215, rz_kBm hB f0', ra_kI]
      by_cases v3 : 0 ≤ m.toInt ∧ m.toInt < nb
      · rw [rz_t v3, rz_kWm hB f0' _ _ _ v1, ra_kI, if_pos rfl]
      · rw [rz_f v3]
def rz_endm (F : Nat → Bool) (n : Nat) : Nat → Nat
  | 0 => 0
  | m + 1 => if n ≤ m ∧ F m = true then rz_endm F n m else m + 1
theorem rz_endsC {σ : ra_S} (h : rz_R σ) (a b v : Int32) : rz_OI 106 216 [.int a, .int b, .int v] σ := by
  obtain ⟨np, nb, nl, nw, len, hB⟩ := rz_base_of h
  have f0 := rz_ft.rf σ
  have f0' := f0.u2 (x := 0)
  obtain ⟨⟨c1, c2, c3⟩, ⟨c4, c5, c6⟩, -, ⟨-, c7, c8⟩, -⟩ := id hB.1
  by_cases v1 : rz_Wp np nb a b v
  · obtain ⟨dv, υ, e1, f1, t1, υ2, e2, f2, t2⟩ := rz_pw hB v1
    obtain ⟨n, hn, rfl⟩ := rz_nat (by omega) v1.2.1
    have fb : ∀ m, m < nb → 0 ≤ rz_far (dv m) np ∧ rz_far (dv m) np ≤ 2000000000 := fun m hm => rz_far_in np (fun q hq => (t1.2.2.2.2 m q hm hq).2)
    have one : ∀ m, m < nb → ((1 : Int32) < Int32.ofInt (rz_far (dv m) np) ↔ ¬ rz_far (dv m) np ≤ 1) := fun m hm => by
      have := fb m hm
      rw [show ((1 : Int32) < Int32.ofInt (rz_far (dv m) np)) ↔ _ from rz_oLt (a := 1) (by omega) (by omega) (by omega) (by omega)]
      omega
    have lc : ∀ m, n ≤ m → m ≤ nb → ∀ o1 o3 : Option Value, ra_D (ra_lay, none, 99999, ra_m106) 34 [some (.ref 0), o1, some (.int (nI n)), o3, some (.int (if m = nb then -1 else nI m)), some (.int (nI m - 1))] [] υ = ra_I (if rz_endm (fun m => decide (rz_far (dv m) np ≤ 1)) n m = nb then -1 else nI (rz_endm (fun m => decide (rz_far (dv m) np ≤ 1)) n m)) υ := by
      intro m
      induction m with
      | zero =>
        intro h1 h2 o1 o3
        have : n = 0 := by omega
        subst this
        rw [e_106_34, if_pos (by decide)]; rfl
      | succ m ih =>
        intro h1 h2 o1 o3
        rw [nI_pred, e_106_34]
        by_cases z : n ≤ m
        · rw [rz_inl (by omega) z, rz_c_far t1 (by omega), ra_kI]
          by_cases y : rz_far (dv m) np ≤ 1
          · have en : rz_endm (fun m => decide (rz_far (dv m) np ≤ 1)) n (m + 1) = rz_endm (fun m => decide (rz_far (dv m) np ≤ 1)) n m := if_pos ⟨z, decide_eq_true y⟩
            rw [en, if_neg (fun x => (one m (by omega)).mp x y), ← ih z (by omega) o1 o3, if_neg (show ¬ m = nb by omega), Int32.sub_eq_add_neg]
          · have en : rz_endm (fun m => decide (rz_far (dv m) np ≤ 1)) n (m + 1) = m + 1 := if_neg (fun x => y (of_decide_eq_true x.2))
            rw [en, if_pos ((one m (by omega)).mpr y)]
        · have en : rz_endm (fun m => decide (rz_far (dv m) np ≤ 1)) n (m + 1) = m + 1 := if_neg (fun x => z x.1)
          rw [en, rz_il (by omega) (by omega)]
    have lm : ∀ m, n ≤ m → m ≤ nb → ∀ o1 o3 : Option Value, ra_D (ra_lay, none, 99999, ra_m216) 24 [some (.ref 86), o1, some (.int (nI n)), o3, some (.int (nI m))] [] υ2 = ra_I (if rz_endm (fun m => decide (rz_far (dv m) np ≤ 1)) n m = nb then -1 else nI (rz_endm (fun m => decide (rz_far (dv m) np ≤ 1)) n m)) υ2 := by
      have fin : ∀ m, m ≤ nb → ∀ o1 o2 o3 : Option Value, ra_D (ra_lay, none, 99999, ra_m216) 48 [some (.ref 86), o1, o2, o3, some (.int (nI m))] [] υ2 = ra_I (if m = nb then -1 else nI m) υ2 := by
        intro m hm o1 o2 o3
        rw [e_216_48, t2.2.2.1]
        by_cases z : m = nb
        · rw [rz_ie z, if_pos z]
        · rw [rz_ine (by omega) (by omega) z, if_neg z]
      intro m
      induction m with
      | zero =>
        intro h1 h2 o1 o3
        have : n = 0 := by omega
        subst this
        rw [e_216_24, if_neg (by decide), fin 0 (by omega)]; rfl
      | succ m ih =>
        intro h1 h2 o1 o3
        rw [e_216_24, nI_pred, pk_m1]
        by_cases z : n ≤ m
        · rw [rz_il (by omega) (by omega), rz_m_far t2 (by omega), ra_kI]
          by_cases y : rz_far (dv m) np ≤ 1
          · have en : rz_endm (fun m => decide (rz_far (dv m) np ≤ 1)) n (m + 1) = rz_endm (fun m => decide (rz_far (dv m) np ≤ 1)) n m := if_pos ⟨z, decide_eq_true y⟩
            rw [en, if_neg (fun x => (one m (by omega)).mp x y)]
            exact ih z (by omega) o1 o3
          · have en : rz_endm (fun m => decide (rz_far (dv m) np ≤ 1)) n (m + 1) = m + 1 := if_neg (fun x => y (of_decide_eq_true x.2))
            rw [en, if_pos ((one m (by omega)).mpr y), fin (m + 1) h2]
        · have en : rz_endm (fun m => decide (rz_far (dv m) np ≤ 1)) n (m + 1) = m + 1 := if_neg (fun x => z x.1)
          rw [en, rz_inl (by omega) (by omega), fin (m + 1) h2]
    have l1 := lc nb (by omega) (Nat.le_refl _) (some (.int a)) (some (.int v))
    rw [if_pos rfl] at l1
    refine ⟨if rz_endm (fun m => decide (rz_far (dv m) np ≤ 1)) n nb = nb then -1 else nI (rz_endm (fun m => decide (rz_far (dv m) np ≤ 1)) n nb), υ, υ2, ?_, ?_, rz_R_ft9 c7 c8 f2 h⟩
    · rw [e_106, rz_kWc1 hB f0 _ _ _ v1, ra_kI, if_neg (by decide), e1, ra_kV, t1.2.2.1]
      exact l1
    · rw [e_216, e2, ra_kI, if_neg (by decide), t2.2.2.1]
      exact lm nb (by omega) (Nat.le_refl _) (some (.int a)) (some (.int v))
  · refine ⟨-2, σ, ra_ui σ 86 2 0, ?_, ?_, rz_R_ft f0' h⟩
    · rw [e_106, rz_kWc hB f0 _ _ _ v1, ra_kI, if_pos rfl]
    · rw [e_216, rz_kWm hB f0' _ _ _ v1, ra_kI, if_pos rfl]
def rz_ib (P : Nat → Bool) (x : Int32) : Nat → Int32
  | 0 => x
  | n + 1 => if P n = true then rz_ib P x n ||| ((1 : Int32) <<< (nI n &&& 31)) else rz_ib P x n
def rz_ob (P : Nat → Nat → Bool) (np n : Nat) : Nat → Int32
  | 0 => 0
  | d + 1 => rz_ib (P (n + d)) (rz_ob P np n d) np
theorem rz_goesC {σ : ra_S} (h : rz_R σ) (a b v k e : Int32) : rz_OI 107 217 [.int a, .int b, .int v, .int k, .int e] σ := by
  obtain ⟨np, nb, nl, nw, len, hB⟩ := rz_base_of h
  have f0 := rz_ft.rf σ
  have f0' := f0.u2 (x := 0)
  obtain ⟨⟨c1, c2, c3⟩, ⟨c4, c5, c6⟩, -, ⟨-, c7, c8⟩, -⟩ := id hB.1
  by_cases v1 : rz_Wp np nb a b v
  · by_cases v2 : 0 ≤ k.toInt ∧ k.toInt ≤ 40
    · by_cases v3 : 0 ≤ e.toInt ∧ e.toInt ≤ 9999
      · obtain ⟨dv, υ, e1, f1, t1, υ2, e2, f2, t2⟩ := rz_pw hB v1
        obtain ⟨n, hn, rfl⟩ := rz_nat (by omega) v1.2.1
        obtain ⟨kk, hk, rfl⟩ := rz_nat' (n := 40) (by omega) v2
        let P : Nat → Nat → Bool := fun m p => decide (e.toInt < rz_ab (dv m p))
        have big : ∀ m p, m < nb → p < np → (e < Int32.ofInt (rz_ab (dv m p)) ↔ P m p = true) := fun m p hm hp => by
          have := rz_ab_in (t1.2.2.2.2 m p hm hp).2
          rw [Int32.lt_iff_toInt_lt, rz_oI (by omega) (by omega)]
          exact decide_eq_true_iff.symm
        have ic : ∀ m, m < nb → ∀ (x : Int32) (d p : Nat), p + d = np → ∀ (o1 o2 o3 o4 : Option Value) (v6 : Int32), ra_D (ra_lay, none, 99999, ra_m107) 72 [some (.ref 0), o1, o2, o3, o4, some (.int e), some (.int v6), some (.int (rz_ib (P m) x p)), some (.int (nI m)), some (.int (nI p))] [] υ = ra_D (ra_lay, none, 99999, ra_m107) 62 [some (.ref 0), o1, o2, o3, o4, some (.int e), some (.int v6), some (.int (rz_ib (P m) x np)), some (.int (nI (m + 1))), some (.int (nI np))] [] υ := by
          intro m hm x d
          induction d with
          | zero => intro p hp o1 o2 o3 o4 v6; have : p = np := by omega
                    subst this; rw [e_107_72, t1.1, rz_inl (by omega) (by omega), nI_1]
          | succ d ih =>
            intro p hp o1 o2 o3 o4 v6
            have i := ih (p + 1) (by omega) o1 o2 o3 o4 v6
            rw [rz_ib] at i
            rw [e_107_72, t1.1, rz_il (by omega) (by omega), rz_c_mv t1 hm (by omega), ra_kI, rz_c_abs υ (t1.2.2.2.2 m p hm (by omega)).2, ra_kI, nI_1, ← i]
            by_cases z : P m p = true
            · rw [if_pos z, if_pos ((big m p hm (by omega)).mpr z)]
            · rw [if_neg z, if_neg (fun y => z ((big m p hm (by omega)).mp y))]
        have im : ∀ m, m < nb → ∀ (x : Int32) (d p : Nat), p + d = np → ∀ (o1 o3 : Option Value) (x2 v4 : Int32), ra_D (ra_lay, none, 99999, ra_m217) 67 [some (.ref 86), o1, some (.int x2), o3, some (.int v4), some (.int e), some (.int (rz_ib (P m) x p)), some (.int (nI m)), some (.int (nI p))] [] υ2 = ra_D (ra_lay, none, 99999, ra_m217) 46 [some (.ref 86), o1, some (.int x2), o3, some (.int v4), some (.int e), some (.int (rz_ib (P m) x np)), some (.int (nI (m + 1))), some (.int (nI np))] [] υ2 := by
          intro m hm x d
          induction d with
          | zero => intro p hp o1 o3 x2 v4; have : p = np := by omega
                    subst this; rw [e_217_67, t2.1, rz_inl (by omega) (by omega), nI_1]
          | succ d ih =>
            intro p hp o1 o3 x2 v4
            have i := ih (p + 1) (by omega) o1 o3 x2 v4
            rw [rz_ib] at i
            rw [e_217_67, t2.1, rz_il (by omega) (by omega), rz_m_mv t2 hm (by omega), ra_kI, rz_m_abs υ2 (t2.2.2.2.2 m p hm (by omega)).2, ra_kI, nI_1, ← i, Int32.or_zero]
            by_cases z : P m p = true
            · rw [if_pos z, if_pos ((big m p hm (by omega)).mpr z)]
            · rw [if_neg z, if_neg (fun y => z ((big m p hm (by omega)).mp y))]
        obtain ⟨D, hD⟩ : ∃ D, D = min (n + kk) (nb - 1) + 1 - n := ⟨_, rfl⟩
        have oc : ∀ d m, m + d = D → ∀ (o1 o2 o3 o4 o9 : Option Value), ra_D (ra_lay, none, 99999, ra_m107) 62 [some (.ref 0), o1, o2, o3, o4, some (.int e), some (.int (nI (min (n + kk) (nb - 1)))), some (.int (rz_ob P np n m)), some (.int (nI (n + m))), o9] [] υ = ra_I (rz_ob P np n D) υ := by
          intro d
          induction d with
          | zero => intro m hm o1 o2 o3 o4 o9; have : m = D := by omega
                    subst this; rw [e_107_62, rz_il (by omega) (by omega)]
          | succ d ih =>
            intro m hm o1 o2 o3 o4 o9
            rw [e_107_62, rz_inl (by omega) (by omega), show (0 : Int32) = nI 0 from rfl]
            have i := ic (n + m) (by omega) (rz_ob P np n m) np 0 (by omega) o1 o2 o3 o4 (nI (min (n + kk) (nb - 1)))
            rw [show rz_ib (P (n + m)) (rz_ob P np n m) 0 = rz_ob P np n m from rfl] at i
            rw [i]
            exact ih (m + 1) (by omega) o1 o2 o3 o4 _
        have om : ∀ d m, m + d = D → ∀ (o1 o3 o8 : Option Value), ra_D (ra_lay, none, 99999, ra_m217) 46 [some (.ref 86), o1, some (.int (nI n)), o3, some (.int (nI kk)), some (.int e), some (.int (rz_ob P np n m)), some (.int (nI (n + m))), o8] [] υ2 = ra_I (rz_ob P np n D) υ2 := by
          intro d
          induction d with
          | zero =>
            intro m hm o1 o3 o8
            have : m = D := by omega
            subst this
            rw [e_217_46, nI_add, t2.2.2.1]
            by_cases z : n + kk < n + m
            · rw [rz_il (by omega) z]
            · rw [rz_inl (by omega) (by omega), rz_inl (by omega) (by omega)]
          | succ d ih =>
            intro m hm o1 o3 o8
            rw [e_217_46, nI_add, t2.2.2.1, rz_inl (by omega) (by omega), rz_il (by omega) (by omega), show (0 : Int32) = nI 0 from rfl]
            have i := im (n + m) (by omega) (rz_ob P np n m) np 0 (by omega) o1 o3 (nI n) (nI kk)
            rw [show rz_ib (P (n + m)) (rz_ob P np n m) 0 = rz_ob P np n m from rfl] at i
            rw [i]
            exact ih (m + 1) (by omega) o1 o3 _
        have mn : (if nI (nb - 1) < nI (n + kk) then nI (nb - 1) else nI (n + kk)) = nI (min (n + kk) (nb - 1)) := by
          by_cases z : nb - 1 < n + kk
          · rw [rz_il (by omega) z, show min (n + kk) (nb - 1) = nb - 1 by omega]
          · rw [rz_inl (by omega) (by omega), show min (n + kk) (nb - 1) = n + kk by omega]
        refine ⟨rz_ob P np n D, υ, υ2, ?_, ?_, rz_R_ft9 c7 c8 f2 h⟩
        · rw [e_107, rz_kWc1 hB f0 _ _ _ v1, ra_kI, if_neg (by decide), rz_c_in _ _ 0 40 rfl rfl, ra_kI, rz_t v2, ra_c_isOff, ra_kI, rz_t v3, e1, ra_kV, t1.2.2.1, show nI nb - (1 : Int32) = nI (nb - 1) from pk_sub (a := nb) (b := 1) (by omega), nI_add, rz_mid47, ra_kI, mn]
          exact oc D 0 (by omega) _ _ _ _ _
        · rw [e_217, rz_m_in _ _ 0 40 rfl rfl, ra_kI, rz_t v2, rz_m_in _ _ 0 9999 rfl rfl, ra_kI, rz_t v3, e2, ra_kI, if_neg (by decide)]
          exact om D 0 (by omega) _ _ _
      · refine ⟨-1, σ, ra_ui σ 86 2 0, ?_, ?_, rz_R_ft f0' h⟩
        · rw [e_107, rz_kWc1 hB f0 _ _ _ v1, ra_kI, if_neg (by decide), rz_c_in _ _ 0 40 rfl rfl, ra_kI, rz_t v2, ra_c_isOff, ra_kI, rz_f v3]
        · rw [e_217, rz_m_in _ _ 0 40 rfl rfl, ra_kI, rz_t v2, rz_m_in _ _ 0 9999 rfl rfl, ra_kI, rz_f v3]
    · refine ⟨-1, σ, ra_ui σ 86 2 0, ?_, ?_, rz_R_ft f0' h⟩
      · rw [e_107, rz_kWc1 hB f0 _ _ _ v1, ra_kI, if_neg (by decide), rz_c_in _ _ 0 40 rfl rfl, ra_kI, rz_f v2]
      · rw [e_217, rz_m_in _ _ 0 40 rfl rfl, ra_kI, rz_f v2]
  · refine ⟨-1, σ, ra_ui σ 86 2 0, ?_, ?_, rz_R_ft f0' h⟩
    · rw [e_107, rz_kWc hB f0 _ _ _ v1, ra_kI, if_pos rfl]
    · rw [e_217, rz_m_in _ _ 0 40 rfl rfl, ra_kI]
      by_cases v2 : 0 ≤ k.toInt ∧ k.toInt ≤ 40
      · rw [rz_t v2, rz_m_in _ _ 0 9999 rfl rfl, ra_kI]
        by_cases v3 : 0 ≤ e.toInt ∧ e.toInt ≤ 9999
        · rw [rz_t v3, rz_kWm hB f0' _ _ _ v1, ra_kI, if_pos rfl]
        · rw [rz_f v3]
      · rw [rz_f v2]
