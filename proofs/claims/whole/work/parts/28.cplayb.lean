-- ===== without =====
theorem rz_c_waysb {σ : ra_S} : ∃ τ : ra_S, ra_C 43 [.ref 77, .ref 62] σ = ra_V τ ∧ (∀ c, c ≠ 79 → τ.1 c = σ.1 c) ∧ τ.2 = σ.2 ∧ ∀ p q, p < 8 → q < 8 → τ.1 79 (8 * p + q) = rz_wb (σ.1 63 p - σ.1 63 q) (σ.1 64 p - σ.1 64 q) := by
  have inner : ∀ k, k < 8 → ∀ d w, w + d = 8 → ∀ τ : ra_S, (∀ c, c ≠ 79 → τ.1 c = σ.1 c) → τ.2 = σ.2 → (∀ p q, q < 8 → (p < k ∨ p = k ∧ q < w) → τ.1 79 (8 * p + q) = rz_wb (σ.1 63 p - σ.1 63 q) (σ.1 64 p - σ.1 64 q)) → ∃ (τ' : ra_S), ra_D (ra_lay, none, 99999, ra_m43) 10 [some (.ref 77), some (.ref 62), some (.int (nI k)), some (.int (nI w))] [] τ = ra_D (ra_lay, none, 99999, ra_m43) 2 [some (.ref 77), some (.ref 62), some (.int (nI (k + 1))), some (.int (nI 8))] [] τ' ∧ (∀ c, c ≠ 79 → τ'.1 c = σ.1 c) ∧ τ'.2 = σ.2 ∧ (∀ p q, q < 8 → (p < k + 1) → τ'.1 79 (8 * p + q) = rz_wb (σ.1 63 p - σ.1 63 q) (σ.1 64 p - σ.1 64 q)) := by
    intro k hk d
    induction d with
    | zero => intro w hw τ h1 h2 h3; have : w = 8 := by omega
              subst this
              rw [e_43b_10, if_neg (by decide), nI_1]
              exact ⟨τ, rfl, h1, h2, fun p q g1 g2 => h3 p q g1 (by omega)⟩
    | succ d ih =>
      intro w hw τ h1 h2 h3
      rw [e_43b_10, show (8 : Int32) = nI 8 from rfl, rz_il (by omega) (by omega), rz_ig (by omega) (by omega), rz_ig (by omega) (by omega), rz_ig (by omega) (by omega), rz_ig (by omega) (by omega), rz_c_wb, ra_kI, pk_mul, nI_add, rz_ig (by omega) (by omega), nI_clamp (by omega), nI_clamp (by omega), nI_clamp (by omega), nI_1]
      refine ih (w + 1) (by omega) _ (fun c hc => by rw [ra_ui_1 c hc]; exact h1 c hc) h2 (fun p q g1 g2 => ?_)
      rw [ra_ui_get, h1 63 (by decide), h1 64 (by decide)]
      by_cases y : 8 * p + q = k * 8 + w
      · have : p = k := by omega
        have : q = w := by omega
        subst p q
        rw [if_pos ⟨rfl, y⟩]
      · rw [if_neg (fun z => y z.2)]
        exact h3 p q g1 (by omega)
  have outer : ∀ d k, k + d = 8 → ∀ (τ : ra_S) (o3 : Option Value), (∀ c, c ≠ 79 → τ.1 c = σ.1 c) → τ.2 = σ.2 → (∀ p q, q < 8 → p < k → τ.1 79 (8 * p + q) = rz_wb (σ.1 63 p - σ.1 63 q) (σ.1 64 p - σ.1 64 q)) → ∃ τ' : ra_S, ra_D (ra_lay, none, 99999, ra_m43) 2 [some (.ref 77), some (.ref 62), some (.int (nI k)), o3] [] τ = ra_V τ' ∧ (∀ c, c ≠ 79 → τ'.1 c = σ.1 c) ∧ τ'.2 = σ.2 ∧ (∀ p q, q < 8 → p < 8 → τ'.1 79 (8 * p + q) = rz_wb (σ.1 63 p - σ.1 63 q) (σ.1 64 p - σ.1 64 q)) := by
    intro d
    induction d with
    | zero => intro k hk τ o3 h1 h2 h3; have : k = 8 := by omega
              subst this; rw [e_43b_2, if_neg (by decide)]; exact ⟨τ, rfl, h1, h2, h3⟩
    | succ d ih =>
      intro k hk τ o3 h1 h2 h3
      obtain ⟨τ', e, i1, i2, i3⟩ := inner k (by omega) 8 0 (by omega) τ h1 h2 (fun p q g1 g2 => h3 p q g1 (by omega))
      rw [e_43b_2, show (8 : Int32) = nI 8 from rfl, rz_il (by omega) (by omega), show (0 : Int32) = nI 0 from rfl, e]
      exact ih (k + 1) (by omega) τ' _ i1 i2 i3
  obtain ⟨τ, e, i1, i2, i3⟩ := outer 8 0 (by omega) σ none (fun _ _ => rfl) rfl (fun p q _ g => by omega)
  exact ⟨τ, by rw [e_43b]; exact e, i1, i2, fun p q g1 g2 => i3 p q g2 g1⟩
theorem rz_c_atb {σ : ra_S} {p b : Nat} (hp : p < 8) (hb : b < 40) : ra_C 47 [.ref 77, .int (nI p), .int (nI b)] σ = ra_I (σ.1 78 (8 * b + p)) σ := by
  rw [e_47b, if_neg (nI_pos (by omega)), show (8 : Int32) = nI 8 from rfl, rz_il (by omega) hp, if_neg (nI_pos (by omega)), show (40 : Int32) = nI 40 from rfl, rz_il (by omega) hb, pk_mul, nI_add, rz_ig (by omega) (by omega), nI_clamp (by omega), Nat.mul_comm b 8]
theorem rz_c_gapb {E : rz_En} {τ : ra_S} {p b : Nat} (hp : p < 8) (hb1 : 1 ≤ b) (hb : b < 40) {r1 r2 : Nat → Int} (i1 : ∀ q, -1000000000 ≤ r1 q ∧ r1 q ≤ 1000000000) (i2 : ∀ q, -1000000000 ≤ r2 q ∧ r2 q ≤ 1000000000) (h25 : τ.1 25 1 = Int32.ofInt (rz_bg E 1)) (hbg : 0 ≤ rz_bg E 1 ∧ rz_bg E 1 ≤ 10000000) (h1p : τ.1 78 (8 * (b - 1) + p) = Int32.ofInt (r1 p)) (h2 : b ≠ 1 → τ.1 78 (8 * (b - 2) + p) = Int32.ofInt (r2 p)) : ra_C 46 [.ref 77, .ref 10, .int (nI p), .int (nI b)] τ = ra_J (rz_L (rz_gap E b r1 r2 p)) τ := by
  have s1 : nI b - (1 : Int32) = nI (b - 1) := pk_sub (a := b) (b := 1) hb1
  rw [e_46b]
  unfold rz_gap
  by_cases z : b = 1
  · subst z
    rw [if_neg (by decide), if_pos rfl, h25, rz_oL (by omega)]
  · have s2 : nI b - (2 : Int32) = nI (b - 2) := pk_sub (a := b) (b := 2) (by omega)
    rw [if_pos (show (1 : Int32) < nI b from nI_lt (a := 1) (b := b) (by omega) (by omega)), if_neg z, s1, s2, rz_c_atb hp (by omega), ra_kI, rz_c_atb hp (by omega), ra_kI, h1p, h2 z, rz_oL (i1 p), rz_oL (i2 p), rz_L_sub]
set_option maxHeartbeats 4000000 in
theorem rz_c_wloopb {E : rz_En} {np nb b p : Nat} {τ : ra_S} (h : rz_CB 79 E np nb τ) (ok : rz_Eok E np nb) (hb1 : 1 ≤ b) (hb : b < nb) (hp : p < np) {r1 r2 : Nat → Int} (i1 : ∀ q, -1000000000 ≤ r1 q ∧ r1 q ≤ 1000000000) (hg : -2000000000 ≤ rz_gap E b r1 r2 p ∧ rz_gap E b r1 r2 p ≤ 2000000000) (h1 : ∀ q, q < np → τ.1 78 (8 * (b - 1) + q) = Int32.ofInt (r1 q)) :
    ∀ d k, k + d = np → ∀ (υ : ra_S) (o5 o6 o14 o15 o16 : Option Value), υ.1 = τ.1 → (∀ c, c ≠ 77 → υ.2 c = τ.2 c) → υ.2 77 4 = rz_L (rz_fold E b (rz_gap E b r1 r2 p) r1 p k).1 → υ.2 77 5 = rz_L (rz_fold E b (rz_gap E b r1 r2 p) r1 p k).2 → ∃ υ' : ra_S, ra_D (ra_lay, none, 99999, ra_m44) 78 [some (.ref 77), some (.ref 10), some (.ref 62), some (.int (nI p)), some (.int (nI b)), o5, o6, some (.long (rz_L (rz_gap E b r1 r2 p))), none, some (.long (rz_L (r1 p + rz_gap E b r1 r2 p))), none, some (.int (Int32.ofInt (rz_w E p 2))), some (.int (Int32.ofInt (rz_w E p 3))), some (.int (nI k)), o14, o15, o16] [] υ = ra_J (rz_L (rz_mid E np b r1 r2 p)) υ' ∧ υ'.1 = τ.1 ∧ ∀ c, c ≠ 77 → υ'.2 c = τ.2 c := by
  obtain ⟨a1, a2, a3, a4, a5, a6, a7, a8⟩ := id h
  obtain ⟨mw, mh, ld, ml, l0, l3, md⟩ := a5 p hp
  have w2 := ok.1 p hp 2 (by omega)
  have w3 := ok.1 p hp 3 (by omega)
  have fi := rz_fold_in ok (b := b) (by omega) hp hg i1
  have s1 : nI b - (1 : Int32) = nI (b - 1) := pk_sub (a := b) (b := 1) hb1
  intro d
  induction d with
  | zero =>
    intro k hk υ o5 o6 o14 o15 o16 u1 u2 u4 u5
    have : k = np := by omega
    subst this
    obtain ⟨f1, f2, f3, f4⟩ := fi k (Nat.le_refl _)
    rw [e_44b_78, u1, a1, rz_inl (by omega) (by omega), e_44b_202, u4, u5]
    unfold rz_mid
    by_cases z : (rz_fold E b (rz_gap E b r1 r2 p) r1 p k).2 = 0
    · rw [if_pos ((rz_LZ (by omega) (by omega)).mpr z), if_pos z]
      exact ⟨υ, rfl, u1, u2⟩
    · rw [if_neg (fun y => z ((rz_LZ (by omega) (by omega)).mp y)), if_neg z, rz_c_div υ (by omega) (by omega) (by omega) (by omega), ra_kJ]
      exact ⟨υ, rfl, u1, u2⟩
  | succ d ih =>
    intro k hk υ o5 o6 o14 o15 o16 u1 u2 u4 u5
    have hk' : k < np := by omega
    obtain ⟨w, wl, wy, dl⟩ := md k hk'
    obtain ⟨es, eh⟩ := a7 p k hp hk'
    have sp := a6 k hk'
    have ik := i1 k
    have ih' := ih (k + 1) (by omega)
    rw [rz_fold] at ih'
    dsimp only at ih'
    have hear : ∀ (υ : ra_S) (o14 o15 o16 : Option Value), υ.1 = τ.1 → (∀ c, c ≠ 77 → υ.2 c = τ.2 c) → υ.2 77 4 = rz_L ((rz_fold E b (rz_gap E b r1 r2 p) r1 p k).1 + (if rz_see E p k then rz_w E p 2 else 0) * (r1 k + rz_gap E b r1 r2 p)) → υ.2 77 5 = rz_L ((rz_fold E b (rz_gap E b r1 r2 p) r1 p k).2 + (if rz_see E p k then rz_w E p 2 else 0)) → ∃ υ' : ra_S, ra_D (ra_lay, none, 99999, ra_m44) 136 [some (.ref 77), some (.ref 10), some (.ref 62), some (.int (nI p)), some (.int (nI b)), o5, o6, some (.long (rz_L (rz_gap E b r1 r2 p))), none, some (.long (rz_L (r1 p + rz_gap E b r1 r2 p))), none, some (.int (Int32.ofInt (rz_w E p 2))), some (.int (Int32.ofInt (rz_w E p 3))), some (.int (nI k)), some (.long (rz_L (r1 k + rz_gap E b r1 r2 p))), none, o16] [] υ = ra_J (rz_L (rz_mid E np b r1 r2 p)) υ' ∧ υ'.1 = τ.1 ∧ ∀ c, c ≠ 77 → υ'.2 c = τ.2 c := by
      intro υ o14 o15 o16 u1 u2 u4 u5
      rw [e_44b_136, rz_ig (by omega) (by omega), nI_clamp (show p < 2 ^ 31 by omega), u1]
      by_cases z : rz_bit (τ.1 68 p) k = true
      · have z' := of_decide_eq_true z
        rw [if_pos z', rz_ig (by omega) (by omega), show (8 : Int32) = nI 8 from rfl, pk_mul, nI_add, rz_ig (by omega) (by omega), rz_ig (by omega) (by omega), e_45b, ra_kV, nI_clamp (show k < 2 ^ 31 by omega), nI_clamp (show p * 8 + k < 2 ^ 31 by omega), Nat.mul_comm p 8, wy, ml, nI_1]
        refine ih' _ _ _ _ _ _ u1 (fun c hc => by rw [ra_ul_2 c hc, ra_ul_2 c hc]; exact u2 c hc) ?_ ?_
        · rw [eh, if_pos z, ra_ul_get, if_neg (by decide), ra_ul_get, if_pos ⟨rfl, rfl⟩, u4, rz_wL w3, rz_oL (show -1000000000 ≤ ld ∧ ld ≤ 1000000000 by omega), rz_32L, show (τ.1 21 k + nI w).toInt = (τ.1 21 k).toInt + (w : Int) by have nw := nI_toInt (n := w) (by omega); rw [rz_addI (by have := sp.1; omega) (by have := sp.2; omega), nw], rz_L_add, rz_L_sub, rz_L_mul, rz_L_add, show r1 k + rz_gap E b r1 r2 p + ((τ.1 21 k).toInt + (w : Int)) - ld = r1 k + rz_gap E b r1 r2 p + rz_dl E p k by rw [dl]; omega]
        · rw [eh, if_pos z, ra_ul_get, if_pos ⟨rfl, rfl⟩, u5, rz_wL w3, rz_L_add]
      · have z' : ¬ ((τ.1 68 p >>> (nI k &&& 31)) &&& (1 : Int32) = 1) := fun q => z (decide_eq_true q)
        rw [if_neg z', nI_1]
        refine ih' _ _ _ _ _ _ u1 u2 ?_ ?_
        · rw [eh, if_neg z, Int.zero_mul, Int.add_zero]; exact u4
        · rw [eh, if_neg z, Int.add_zero]; exact u5
    rw [e_44b_78, u1, a1, rz_il (by omega) hk', show (8 : Int32) = nI 8 from rfl, rz_il (by omega) (by omega), s1, rz_c_atb (by omega) (by omega), ra_kI, rz_ig (by omega) (by omega), nI_clamp (show p < 2 ^ 31 by omega), u1, h1 k hk', rz_oL ik, rz_L_add]
    by_cases z : rz_bit (τ.1 67 p) k = true
    · have z' := of_decide_eq_true z
      rw [if_pos z', e_45b, ra_kV]
      refine hear _ none none _ u1 (fun c hc => by rw [ra_ul_2 c hc, ra_ul_2 c hc]; exact u2 c hc) ?_ ?_
      · rw [es, if_pos z, ra_ul_get, if_neg (by decide), ra_ul_get, if_pos ⟨rfl, rfl⟩, u4, rz_wL w2, rz_L_mul, rz_L_add]
      · rw [es, if_pos z, ra_ul_get, if_pos ⟨rfl, rfl⟩, u5, rz_wL w2, rz_L_add]
    · have z' : ¬ ((τ.1 67 p >>> (nI k &&& 31)) &&& (1 : Int32) = 1) := fun q => z (decide_eq_true q)
      rw [if_neg z']
      refine hear υ none none _ u1 u2 ?_ ?_
      · rw [es, if_neg z, Int.zero_mul, Int.add_zero]; exact u4
      · rw [es, if_neg z, Int.add_zero]; exact u5
set_option maxHeartbeats 2000000 in
theorem rz_c_weighb {E : rz_En} {np nb b p : Nat} {τ : ra_S} (h : rz_CB 79 E np nb τ) (ok : rz_Eok E np nb) (hb1 : 1 ≤ b) (hb : b < nb) (hp : p < np) (ht : ∀ b', b' < b → ∀ q, q < np → τ.1 78 (8 * b' + q) = Int32.ofInt (rz_e E np b' q)) : ∃ υ' : ra_S, ra_C 44 [.ref 77, .ref 10, .ref 62, .int (nI p), .int (nI b), .long (rz_L (rz_bg E b + rz_hb E p))] τ = ra_J (rz_L (rz_pre E np b p)) υ' ∧ υ'.1 = τ.1 ∧ ∀ c, c ≠ 77 → υ'.2 c = τ.2 c := by
  obtain ⟨a1, a2, a3, a4, a5, a6, a7, a8⟩ := id h
  obtain ⟨mw, mh, ld, ml, l0, l3, md⟩ := a5 p hp
  have i1 := fun q => (rz_row_in E np (b - 1) q).1
  have i2 := fun q => (rz_row_in E np (b - 1) q).2
  have h1 : ∀ q, q < np → τ.1 78 (8 * (b - 1) + q) = Int32.ofInt ((rz_row E np (b - 1)).1 q) := fun q g1 => ht (b - 1) (by omega) q g1
  have h2 : b ≠ 1 → τ.1 78 (8 * (b - 2) + p) = Int32.ofInt ((rz_row E np (b - 1)).2 p) := fun y => by
    rw [ht (b - 2) (by omega) p hp, show b - 1 = b - 2 + 1 by omega, rz_row2]; rfl
  have bg1 := ok.2.2.1 1 (by omega)
  have hg : -2000000000 ≤ rz_gap E b (rz_row E np (b - 1)).1 (rz_row E np (b - 1)).2 p ∧ rz_gap E b (rz_row E np (b - 1)).1 (rz_row E np (b - 1)).2 p ≤ 2000000000 := by
    unfold rz_gap
    have := i1 p
    have := i2 p
    by_cases y : b = 1
    · rw [if_pos y]; omega
    · rw [if_neg y]; omega
  have s1 : nI b - (1 : Int32) = nI (b - 1) := pk_sub (a := b) (b := 1) hb1
  have cw := fun (σ : ra_S) (e : σ.1 = τ.1) (j : Nat) (hj : j < 4) => (rz_c_cw (σ := σ) (p := p) (by omega) hj).trans (by rw [e, mw j hj])
  unfold rz_pre
  rw [if_neg (by omega), e_44b, rz_c_gapb (E := E) (by omega) hb1 (by omega) i1 i2 (a8 1 (by omega)) bg1 (h1 p hp) h2, ra_kJ, s1, rz_c_atb (by omega) (by omega), ra_kI, show (2 : Int32) = nI 2 from rfl, cw τ rfl 2 (by omega), ra_kI, show (3 : Int32) = nI 3 from rfl, cw τ rfl 3 (by omega), ra_kI, show (0 : Int32) = nI 0 from rfl, rz_c_cw (p := p) (j := 0) (by omega) (by omega), ra_kI, e_45b, ra_kV, show (1 : Int32) = nI 1 from rfl, rz_c_cw (p := p) (j := 1) (by omega) (by omega), ra_kI, e_45b, ra_kV, h1 p hp, rz_oL (i1 p), rz_L_add]
  simp only [ra_ul_1, mw 0 (by omega), mw 1 (by omega)]
  refine rz_c_wloopb h ok hb1 hb hp i1 hg h1 np 0 (by omega) _ _ _ _ _ _ rfl (fun c hc => by rw [ra_ul_2 c hc, ra_ul_2 c hc, ra_ul_2 c hc, ra_ul_2 c hc, ra_ul_2 c hc, ra_ul_2 c hc]) ?_ ?_
  · simp only [ra_ul_get]
    simp only [Nat.reduceEqDiff, and_false, if_false, and_self, if_true]
    rw [rz_wL (ok.1 p hp 0 (by omega)), rz_wL (ok.1 p hp 1 (by omega)), rz_L_mul, rz_L_mul, show (0 : Int64) = rz_L 0 from rfl, rz_L_add, rz_L_add, Int.zero_add, rz_fold]
  · simp only [ra_ul_get]
    simp only [Nat.reduceEqDiff, and_false, if_false, and_self, if_true]
    rw [rz_wL (ok.1 p hp 0 (by omega)), rz_wL (ok.1 p hp 1 (by omega)), show (0 : Int64) = rz_L 0 from rfl, rz_L_add, rz_L_add, Int.zero_add, rz_fold]
def rz_CIb (E : rz_En) (np s j b p : Nat) (σ τ : ra_S) : Prop := (∀ c, c ≠ 78 → c ≠ 62 → τ.1 c = σ.1 c) ∧ (∀ k, k ≠ 13 → τ.1 62 k = σ.1 62 k) ∧ (∀ c, c ≠ 77 → τ.2 c = σ.2 c) ∧ (∀ b' q, q < np → (b' < b ∨ b' = b ∧ q < p) → τ.1 78 (8 * b' + q) = Int32.ofInt (rz_e E np b' q)) ∧ (j = 0 ∨ τ.1 62 13 = nI (rz_sd s (b * np + p)))
set_option maxHeartbeats 2000000 in
theorem rz_c_oneb {E : rz_En} {np nb s j nw b p : Nat} {f : Nat → Nat × Nat × Int} {xt : Int} {σ τ : ra_S} (hC : rz_CB 79 E np nb σ) (ok : rz_Eok E np nb) (hW : rz_CW f nw σ) (hj : σ.1 62 12 = nI j) (hj2 : j ≤ 200) (hs : s < 2147483648) (hxt : (if nI p = σ.1 62 9 then if nI b = σ.1 62 10 then σ.1 62 11 else 0 else 0) = Int32.ofInt xt) (hxb : -2000 ≤ xt ∧ xt ≤ 2000) (hx : rz_ex E b p = rz_wsum f p b nw + xt + rz_jt s j (b * np + p)) (hb : b < nb) (hp : p < np) (hI : rz_CIb E np s j b p σ τ) (o7 o8 o9 o10 : Option Value) :
    ∃ (τ' : ra_S) (o7' o8' o9' o10' : Option Value), ra_D (ra_lay, none, 99999, ra_m42) 47 [some (.ref 77), some (.ref 10), some (.ref 62), some (.int (nI np)), some (.int (nI nb)), some (.int (nI b)), some (.int (nI p)), o7, o8, o9, o10] [] τ = ra_D (ra_lay, none, 99999, ra_m42) 47 [some (.ref 77), some (.ref 10), some (.ref 62), some (.int (nI np)), some (.int (nI nb)), some (.int (nI b)), some (.int (nI (p + 1))), o7', o8', o9', o10'] [] τ' ∧ rz_CIb E np s j b (p + 1) σ τ' := by
  obtain ⟨I1, I2, I3, I4, I5⟩ := id hI
  obtain ⟨a1, a2, a3, a4, a5, a6, a7, a8⟩ := id hC
  have cc : ∀ υ : ra_S, υ.1 = τ.1 → rz_CB 79 E np nb υ := fun υ e => rz_CB_eq (by rw [e]; exact I1 16 (by decide) (by decide)) (by rw [e]; exact I1 10 (by decide) (by decide)) (by rw [e]; exact I1 69 (by decide) (by decide)) (by rw [e]; exact I1 71 (by decide) (by decide)) (by rw [e]; exact I1 70 (by decide) (by decide)) (by rw [e]; exact I1 79 (by decide) (by decide)) (by rw [e]; exact I1 21 (by decide) (by decide)) (by rw [e]; exact I1 67 (by decide) (by decide)) (by rw [e]; exact I1 68 (by decide) (by decide)) (by rw [e]; exact I1 25 (by decide) (by decide)) hC
  obtain ⟨mw, mh, -⟩ := (cc τ rfl).2.2.2.2.1 p hp
  have e25 := (cc τ rfl).2.2.2.2.2.2.2 b (by omega)
  have hbb := ok.2.2.1 b (by omega)
  have hhb := ok.2.1 p hp
  have pin := rz_pre_in ok a3 hb hp
  have win := rz_wsum_in (fun w hw => (hW.2.2 w hw).2.2.2.2.2) p b
  have jin := rz_jt_in s j (b * np + p)
  have hnw := hW.2.1
  have fin : ∀ (υ : ra_S) (o7 o8 o9 o10 : Option Value), υ.1 = τ.1 → (∀ c, c ≠ 77 → υ.2 c = τ.2 c) → ∃ (τ' : ra_S) (o7' o8' o9' o10' : Option Value), ra_D (ra_lay, none, 99999, ra_m42) 94 [some (.ref 77), some (.ref 10), some (.ref 62), some (.int (nI np)), some (.int (nI nb)), some (.int (nI b)), some (.int (nI p)), o7, o8, o9, o10] [.long (rz_L (rz_pre E np b p))] υ = ra_D (ra_lay, none, 99999, ra_m42) 47 [some (.ref 77), some (.ref 10), some (.ref 62), some (.int (nI np)), some (.int (nI nb)), some (.int (nI b)), some (.int (nI (p + 1))), o7', o8', o9', o10'] [] τ' ∧ rz_CIb E np s j b (p + 1) σ τ' := by
    intro υ o7 o8 o9 o10 u1 u2
    have hWu : rz_CW f nw υ := by
      unfold rz_CW at hW ⊢
      rw [u1, I1 10 (by decide) (by decide), I1 26 (by decide) (by decide), I1 27 (by decide) (by decide), I1 28 (by decide) (by decide)]
      exact hW
    obtain ⟨υ2, d1, d2, d3, d4, d5⟩ := rz_c_draw (σ := υ) (s := s) (j := j) (k := b * np + p) (by rw [u1, I2 12 (by decide)]; exact hj) hj2 hs (by rw [u1]; exact I5)
    have e7 : ra_C 7 [.ref 62, .int (nI p), .int (nI b)] υ = ra_I (Int32.ofInt xt) υ := by
      rw [e_7, u1, I2 9 (by decide), I2 10 (by decide), I2 11 (by decide), ← hxt]
      by_cases z1 : nI p = σ.1 62 9
      · rw [if_pos z1, if_pos z1]
        by_cases z2 : nI b = σ.1 62 10
        · rw [if_pos z2, if_pos z2]
        · rw [if_neg z2, if_neg z2]
      · rw [if_neg z1, if_neg z1]
    rw [e_42b_94, rz_c_wr hWu (by omega) (by omega), ra_kI, e7, ra_kI, d1, ra_kI, ← Int32.ofInt_add, ← Int32.ofInt_add, rz_oL (by omega), rz_L_add, ← hx, rz_c_min υ2 (by omega) (by omega), ra_kJ, rz_c_max υ2 (by split <;> omega) (by split <;> omega), ra_kJ, show (8 : Int32) = nI 8 from rfl, pk_mul, nI_add, rz_ig (by omega) (by omega), nI_clamp (by omega), nI_1]
    refine ⟨_, _, _, _, _, rfl, fun c h1 h2 => ?_, fun k hk => ?_, fun c hc => ?_, fun b' q g1 g3 => ?_, ?_⟩
    · rw [ra_ui_1 c h1, d2 c h2, u1]; exact I1 c h1 h2
    · rw [ra_ui_1 62 (by decide), d3 k hk, u1]; exact I2 k hk
    · rw [ra_ui_2, d4, u2 c hc]; exact I3 c hc
    · rw [ra_ui_get]
      by_cases y : 8 * b' + q = b * 8 + p
      · have : b' = b := by omega
        have : q = p := by omega
        subst b' q
        rw [if_pos ⟨rfl, y⟩, rz_e_pre]
        have tt : ∀ v : Int, -9223372036854775808 ≤ v → v < 9223372036854775808 → (rz_L v).toInt32 = Int32.ofInt v := fun v v1 v2 => by rw [← Int32.toInt_inj, Int64.toInt_toInt32, rz_L_i v1 v2, Int32.toInt_ofInt]
        rw [tt _ (by (repeat' split) <;> omega) (by (repeat' split) <;> omega)]
        congr 1
        unfold rz_cl
        (repeat' split) <;> omega
      · rw [if_neg (fun z => y z.2), d2 78 (by decide), u1]
        exact I4 b' q g1 (by omega)
    · rw [ra_ui_1 62 (by decide)]; exact d5
  rw [e_42b_47, rz_il (by omega) hp, rz_ig (by omega) (by omega), rz_ig (by omega) (by omega), nI_clamp (by omega), nI_clamp (by omega), e25, mh, rz_oL (by omega), rz_oL (by omega), rz_L_add]
  by_cases z : b = 0
  · subst z
    rw [if_pos (show nI 0 = (0 : Int32) from rfl)]
    have := fin τ (some (.long (rz_L (rz_bg E 0 + rz_hb E p)))) none o9 o10 rfl (fun _ _ => rfl)
    rw [show rz_pre E np 0 p = rz_bg E 0 + rz_hb E p from if_pos rfl] at this
    exact this
  · rw [if_neg (show ¬ nI b = (0 : Int32) from fun y => z ((nI_eq (a := b) (b := 0) (by omega) (by omega)).mp y))]
    obtain ⟨υ, e, u1, u2⟩ := rz_c_weighb (cc τ rfl) ok (by omega) hb hp (fun b' g q g1 => I4 b' q g1 (Or.inl g))
    rw [e, ra_kJ]
    exact fin υ _ _ _ _ u1 u2
/-- the class plays -/
theorem rz_c_playb {E : rz_En} {np nb s j nw : Nat} {f : Nat → Nat × Nat × Int} {xt : Nat → Nat → Int} {σ : ra_S} (hC : rz_CB 79 E np nb σ) (ok : rz_Eok E np nb) (hW : rz_CW f nw σ) (hj : σ.1 62 12 = nI j) (hj2 : j ≤ 200) (hs : s < 2147483648) (hxt : ∀ b p, b < nb → p < np → (if nI p = σ.1 62 9 then if nI b = σ.1 62 10 then σ.1 62 11 else 0 else 0) = Int32.ofInt (xt b p) ∧ -2000 ≤ xt b p ∧ xt b p ≤ 2000) (hx : ∀ b p, b < nb → p < np → rz_ex E b p = rz_wsum f p b nw + xt b p + rz_jt s j (b * np + p)) (h0 : j = 0 ∨ σ.1 62 13 = nI s) :
    ∃ τ : ra_S, ra_D (ra_lay, none, 99999, ra_m42) 37 [some (.ref 77), some (.ref 10), some (.ref 62), some (.int (nI np)), some (.int (nI nb)), some (.int 0), none, none, none, none, none] [] σ = ra_V τ ∧ rz_CIb E np s j nb 0 σ τ := by
  have row : ∀ b, b < nb → ∀ d p, p + d = np → ∀ (τ : ra_S) (o7 o8 o9 o10 : Option Value), rz_CIb E np s j b p σ τ → ∃ (τ' : ra_S) (o6' o7' o8' o9' o10' : Option Value), ra_D (ra_lay, none, 99999, ra_m42) 47 [some (.ref 77), some (.ref 10), some (.ref 62), some (.int (nI np)), some (.int (nI nb)), some (.int (nI b)), some (.int (nI p)), o7, o8, o9, o10] [] τ = ra_D (ra_lay, none, 99999, ra_m42) 37 [some (.ref 77), some (.ref 10), some (.ref 62), some (.int (nI np)), some (.int (nI nb)), some (.int (nI (b + 1))), o6', o7', o8', o9', o10'] [] τ' ∧ rz_CIb E np s j (b + 1) 0 σ τ' := by
    intro b hb d
    induction d with
    | zero =>
      intro p hp τ o7 o8 o9 o10 hI
      have : p = np := by omega
      subst this
      obtain ⟨I1, I2, I3, I4, I5⟩ := id hI
      rw [e_42b_47, rz_inl (by have := hC.2.2.1; omega) (by omega), nI_1]
      refine ⟨τ, _, _, _, _, _, rfl, I1, I2, I3, fun b' q g1 g3 => I4 b' q g1 (by omega), ?_⟩
      rw [show (b + 1) * p + 0 = b * p + p by rw [Nat.succ_mul]; omega]
      exact I5
    | succ d ih =>
      intro p hp τ o7 o8 o9 o10 hI
      obtain ⟨t1, t2⟩ := hxt b p hb (by omega)
      obtain ⟨τ', q7, q8, q9, q10, e, hI'⟩ := rz_c_oneb hC ok hW hj hj2 hs t1 t2 (hx b p hb (by omega)) hb (by omega) hI o7 o8 o9 o10
      rw [e]
      exact ih (p + 1) (by omega) τ' q7 q8 q9 q10 hI'
  have loop : ∀ d b, b + d = nb → ∀ (τ : ra_S) (o6 o7 o8 o9 o10 : Option Value), rz_CIb E np s j b 0 σ τ → ∃ τ' : ra_S, ra_D (ra_lay, none, 99999, ra_m42) 37 [some (.ref 77), some (.ref 10), some (.ref 62), some (.int (nI np)), some (.int (nI nb)), some (.int (nI b)), o6, o7, o8, o9, o10] [] τ = ra_V τ' ∧ rz_CIb E np s j nb 0 σ τ' := by
    intro d
    induction d with
    | zero =>
      intro b hb τ o6 o7 o8 o9 o10 hI
      have : b = nb := by omega
      subst this
      rw [e_42b_37, rz_inl (by have := hC.2.2.2.1; omega) (by omega)]
      exact ⟨τ, rfl, hI⟩
    | succ d ih =>
      intro b hb τ o6 o7 o8 o9 o10 hI
      obtain ⟨τ', q6, q7, q8, q9, q10, e, hI'⟩ := row b (by omega) np 0 (by omega) τ o7 o8 o9 o10 hI
      rw [e_42b_37, rz_il (by have := hC.2.2.2.1; omega) (by omega), show (0 : Int32) = nI 0 from rfl, e]
      exact ih (b + 1) (by omega) τ' q6 q7 q8 q9 q10 hI'
  exact loop nb 0 (by omega) σ none none none none none ⟨fun _ _ _ => rfl, fun _ _ => rfl, fun _ _ => rfl, fun b' q _ g => by omega, by rw [show 0 * np + 0 = 0 by omega]; exact h0⟩
set_option maxHeartbeats 2000000 in
theorem rz_c_runb {E : rz_En} {np nb nl s j nw : Nat} {f : Nat → Nat × Nat × Int} {xt : Nat → Nat → Int} {σ : ra_S} (hA : rz_CA E np nb nl σ) (ok : rz_Eok E np nb) (hW : rz_CW f nw σ) (hj : σ.1 62 12 = nI j) (hj2 : j ≤ 200) (hs : s < 2147483648) (hxt : ∀ b p, b < nb → p < np → (if nI p = σ.1 62 9 then if nI b = σ.1 62 10 then σ.1 62 11 else 0 else 0) = Int32.ofInt (xt b p) ∧ -2000 ≤ xt b p ∧ xt b p ≤ 2000) (hx : ∀ b p, b < nb → p < np → rz_ex E b p = rz_wsum f p b nw + xt b p + rz_jt s j (b * np + p)) (h0 : j = 0 ∨ σ.1 62 13 = nI s) :
    ∃ τ : ra_S, ra_C 42 [.ref 77, .ref 10, .ref 62] σ = ra_V τ ∧ (∀ c, c ∉ [62, 69, 70, 71, 78, 79] → τ.1 c = σ.1 c) ∧ (∀ k, k ≠ 13 → τ.1 62 k = σ.1 62 k) ∧ (∀ c, c ≠ 77 → τ.2 c = σ.2 c) ∧ (∀ b p, b < nb → p < np → τ.1 78 (8 * b + p) = Int32.ofInt (rz_e E np b p)) ∧ (j = 0 ∨ τ.1 62 13 = nI (rz_sd s (nb * np))) := by
  obtain ⟨a1, a2, a3, a4, ⟨a5, a6⟩, a7, a8, a9, a10⟩ := id hA
  obtain ⟨τ1, e1, w1, w2, w3⟩ := rz_c_weighUp a5 a6
  obtain ⟨τ2, e2, m1, m2, m3⟩ := rz_c_waysb (σ := τ1)
  have fr : ∀ c, c ∉ [69, 70, 71, 79] → τ2.1 c = σ.1 c := fun c hc => by
    simp only [List.mem_cons, List.not_mem_nil, or_false, not_or] at hc
    rw [m1 c hc.2.2.2, w1 c hc.1 hc.2.1 hc.2.2.1]
  have CB : rz_CB 79 E np nb τ2 := by
    refine ⟨by rw [fr 16 (by decide)]; exact a1, by rw [fr 10 (by decide)]; exact a2, a3, a4, fun p hp => ?_, fun q hq => by rw [fr 21 (by decide)]; exact a8 q hq, fun p q hp hq => by rw [fr 67 (by decide), fr 68 (by decide)]; exact a9 p q hp hq, fun n hn => by rw [fr 25 (by decide)]; exact a10 n hn⟩
    obtain ⟨l, hl, l1, l2, l3, l4, l5, l6⟩ := a7 p hp
    obtain ⟨q1, q2, q3⟩ := w3 p (by omega)
    have tl : (nI l).toInt = l := nI_toInt (by omega)
    have inl : 0 ≤ (nI l).toInt ∧ (nI l).toInt < nl := by omega
    have cl : (nI l).toNatClampNeg = l := nI_clamp (by omega)
    have eld : rz_ld σ nl p = Int32.ofInt (rz_cah σ p l) := by
      unfold rz_ld rz_la rz_cah
      rw [l1, decide_eq_true inl, Bool.true_and, cl]
      by_cases c : σ.1 15 l = 0
      · rw [if_pos c, if_neg (by simp [c])]; rfl
      · rw [if_neg c, if_pos (by simp [c]), rz_ofI]
    have ldb : 0 ≤ rz_cah σ p l ∧ rz_cah σ p l ≤ 300 := by
      unfold rz_cah
      have := a8 p hp
      by_cases c : σ.1 15 l = 0
      · rw [if_pos c]; omega
      · rw [if_neg c]; exact this
    refine ⟨fun j hj => ?_, ?_, rz_cah σ p l, ?_, ldb.1, ldb.2, fun q hq => ?_⟩
    · rw [m1 69 (by decide), q1 j hj, l2 j hj]
      unfold rz_wv rz_lw
      rw [l1, if_pos inl, cl]
      by_cases c : rz_bit (σ.1 66 p) j = true
      · rw [if_pos c, if_pos c]; rfl
      · rw [if_neg c, if_neg c, rz_ofI]
    · rw [m1 71 (by decide), q3, l3, Int32.ofInt_sub, rz_ofI, eld]
      unfold rz_lh
      rw [l1, if_pos inl, cl]
    · rw [m1 70 (by decide), q2, eld]
    · obtain ⟨-, -, -, -, -, k4, k5, -⟩ := a7 q hq
      refine ⟨rz_wyf (σ.1 63 p) (σ.1 64 p) (σ.1 63 q) (σ.1 64 q), rz_wyf_lt l4 l5 k4 k5, ?_, ?_⟩
      · rw [m3 p q (by omega) (by omega), w1 63 (by decide) (by decide) (by decide), w1 64 (by decide) (by decide) (by decide), rz_wb_wyf l4 l5 k4 k5]
      · rw [fr 21 (by decide)]; exact l6 q hq
  have hW2 : rz_CW f nw τ2 := by
    unfold rz_CW at hW ⊢
    rw [fr 10 (by decide), fr 26 (by decide), fr 27 (by decide), fr 28 (by decide)]
    exact hW
  have f62 := fr 62 (by decide)
  obtain ⟨τ, e, I1, I2, I3, I4, I5⟩ := rz_c_playb (σ := τ2) CB ok hW2 (by rw [f62]; exact hj) hj2 hs (by rw [f62]; exact hxt) hx (by rw [f62]; exact h0)
  refine ⟨τ, ?_, fun c hc => ?_, fun k hk => by rw [I2 k hk, f62], fun c hc => by rw [I3 c hc, m2, w2], fun b p g1 g2 => I4 b p g2 (Or.inl g1), by rw [Nat.add_zero] at I5; exact I5⟩
  · rw [e_42b, e1, ra_kV, e2, ra_kV, CB.1, e_251, show (8 : Int32) = nI 8 from rfl, rz_inl (by omega) a3, ra_kI, CB.2.1, e_251, show (40 : Int32) = nI 40 from rfl, rz_inl (by omega) a4, ra_kI]
    exact e
  · simp only [List.mem_cons, List.not_mem_nil, or_false, not_or] at hc
    rw [I1 c hc.2.2.2.2.1 hc.1, fr c (by simp only [List.mem_cons, List.not_mem_nil, or_false, not_or]; exact ⟨hc.2.1, hc.2.2.1, hc.2.2.2.1, hc.2.2.2.2.2⟩)]
