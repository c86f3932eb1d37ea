-- ===== text: the line of beats =====
theorem rz_10 {α : Type} {x y : α} : (if (1 : Int32) = 0 then x else y) = y := if_neg (by decide)
theorem rz_00 {α : Type} {x y : α} : (if (0 : Int32) = 0 then x else y) = x := if_pos rfl
section RZL2
variable {t : Nat → Nat} {N n : Nat} {k : Nat × Nat} {τ ψ : ra_S}
def rz_bl2 (nb v : Nat) (len : Nat → Nat) (i : Nat) : Nat := if i < nb then len i else v
theorem rz_bl2_lo {nb v : Nat} {len : Nat → Nat} : ∀ j, j ≤ nb → rz_sum (rz_bl2 nb v len) j = rz_sum len j
  | 0, _ => rfl
  | j + 1, h => by
    have e : rz_bl2 nb v len j = len j := if_pos (by omega)
    rw [rz_sum, rz_sum, rz_bl2_lo j (by omega), e]
theorem rz_bl2_hi {nb v : Nat} {len : Nat → Nat} : ∀ i, rz_sum (rz_bl2 nb v len) (nb + i) = rz_sum len nb + i * v
  | 0 => by rw [Nat.add_zero, rz_bl2_lo nb (Nat.le_refl _)]; omega
  | i + 1 => by
    have e : rz_bl2 nb v len (nb + i) = v := if_neg (by omega)
    rw [show nb + (i + 1) = (nb + i) + 1 by omega, rz_sum, rz_bl2_hi i, e, Nat.add_mul]; omega
theorem rz_c_beats {nb m v : Nat} {len : Nat → Nat} (hm : nb + m ≤ 40) : ∀ d i, i + d = m → ∀ υ : ra_S, υ.1 29 5 = nI (nb + i) → (∀ j, j ≤ nb + i → υ.1 44 j = nI (rz_sum (rz_bl2 nb v len) j)) → ∃ υ' : ra_S, ra_D (ra_lay, none, 99999, ra_m58) 2 [some (.ref 29), some (.int (nI v)), some (.int (nI m)), some (.int (nI i))] [] υ = ra_V υ' ∧ (∀ c, c ≠ 29 → c ≠ 44 → υ'.1 c = υ.1 c) ∧ (∀ j, j ≠ 5 → υ'.1 29 j = υ.1 29 j) ∧ υ'.1 29 5 = nI (nb + m) ∧ (∀ j, j ≤ nb + m → υ'.1 44 j = nI (rz_sum (rz_bl2 nb v len) j)) ∧ υ'.1 44 0 = υ.1 44 0 ∧ υ'.2 = υ.2 := by
  intro d
  induction d with
  | zero =>
    intro i hi υ h1 h2
    have : i = m := by omega
    subst this
    rw [e_58_2, rz_inl (by omega) (by omega)]
    exact ⟨υ, rfl, fun _ _ _ => rfl, fun _ _ => rfl, h1, h2, rfl, rfl⟩
  | succ d ih =>
    intro i hi υ h1 h2
    rw [e_58_2, rz_il (by omega) (by omega), h1, if_pos (show nI (nb + i) < (40 : Int32) from nI_lt (b := 40) (by omega) (by omega)), rz_ig (by omega) (by omega), nI_1, nI_1, rz_ig (by omega) (by omega), nI_clamp (by omega), nI_clamp (by omega), h2 (nb + i) (Nat.le_refl _), nI_add]
    have e : rz_sum (rz_bl2 nb v len) (nb + i) + v = rz_sum (rz_bl2 nb v len) (nb + i + 1) := by
      have e : rz_bl2 nb v len (nb + i) = v := if_neg (by omega)
      rw [rz_sum, e]
    rw [e]
    obtain ⟨υ', e2, g1, g2, g3, g4, g5, g6⟩ := ih (i + 1) (by omega) (ra_ui (ra_ui υ 44 (nb + i + 1) (nI (rz_sum (rz_bl2 nb v len) (nb + i + 1)))) 29 5 (nI (nb + i + 1))) (by rw [ra_ui_get, if_pos ⟨rfl, rfl⟩]; rfl) (fun j hj => by
      rw [ra_ui_1 44 (by decide), ra_ui_get]
      by_cases z : j = nb + i + 1
      · rw [if_pos ⟨rfl, z⟩, z]
      · rw [if_neg (fun q => z q.2)]; exact h2 j (by omega))
    refine ⟨υ', e2, fun c c1 c2 => by rw [g1 c c1 c2, ra_ui_1 c c1, ra_ui_1 c c2], fun j hj => by rw [g2 j hj, ra_ui_get, if_neg (fun q => hj q.2), ra_ui_1 29 (by decide)], g3, g4, ?_, g6⟩
    rw [g5, ra_ui_1 44 (by decide), ra_ui_get, if_neg (fun q => by omega)]
theorem rz_m_beats {nb m v : Nat} (hm : nb + m ≤ 40) : ∀ d i, i + d = m → ∀ υ : ra_S, υ.1 86 18 = nI nb → (∀ j, j < i → υ.1 89 (40 + nb + j) = nI v) → ∃ υ' : ra_S, ra_D (ra_lay, none, 99999, ra_m162) 77 [some (.ref 86), some (.int (nI v)), some (.int (nI m)), some (.int (nI i))] [] υ = ra_I 1 (ra_ui υ' 86 18 (nI (nb + m))) ∧ (∀ c, c ≠ 89 → υ'.1 c = υ.1 c) ∧ (∀ j, j < 40 + nb → υ'.1 89 j = υ.1 89 j) ∧ (∀ j, j < m → υ'.1 89 (40 + nb + j) = nI v) ∧ υ'.2 = υ.2 := by
  intro d
  induction d with
  | zero =>
    intro i hi υ h1 h2
    have : i = m := by omega
    subst this
    rw [e_162_77, rz_inl (by omega) (by omega), h1, nI_add]
    exact ⟨υ, rfl, fun _ _ => rfl, fun _ _ => rfl, h2, rfl⟩
  | succ d ih =>
    intro i hi υ h1 h2
    rw [e_162_77, rz_il (by omega) (by omega), h1, show (40 : Int32) + nI nb = nI (40 + nb) from nI_add 40 nb, nI_add, rz_ig (by omega) (by omega), nI_clamp (by omega), nI_1]
    obtain ⟨υ', e2, g1, g2, g3, g4⟩ := ih (i + 1) (by omega) (ra_ui υ 89 (40 + nb + i) (nI v)) (by rw [ra_ui_1 86 (by decide)]; exact h1) (fun j hj => by
      rw [ra_ui_get]
      by_cases z : j = i
      · rw [if_pos ⟨rfl, by omega⟩]
      · rw [if_neg (fun q => by omega)]; exact h2 j (by omega))
    exact ⟨υ', e2, fun c hc => by rw [g1 c hc, ra_ui_1 c hc], fun j hj => by rw [g2 j hj, ra_ui_get, if_neg (fun q => by omega)], g3, g4⟩
/-- beats are added on both sides -/
theorem rz_addB {n' : Nat} {k' : Nat × Nat} {υ φ : ra_S} (J : rz_J t N n' k' υ φ) (hQ : rz_Q n υ φ) (nn : n ≤ n') {nb m v : Nat} (h5 : υ.1 29 5 = nI nb) (hb : nb ≤ 40) (hm : nb + m ≤ 40) (hv : v ≤ 4000) (g1 : rz_gct τ υ) (g2 : rz_gmt ψ φ) (o0 : Option Value) : rz_Ln t N n (ra_D (ra_lay, none, 99999, ra_m27) 84 [o0, some (.ref 29), some (.int (nI v)), some (.int (nI m))] [] υ) (ra_D (ra_lay, none, 99999, ra_m162) 77 [some (.ref 86), some (.int (nI v)), some (.int (nI m)), some (.int 0)] [] φ) τ ψ := by
  obtain ⟨nb', nl, np, nw, q1, q2, q3, q4, q5, q6⟩ := hQ
  obtain ⟨d1, d2, d3, len, d4, d5, d6⟩ := q2
  have : nb' = nb := rz_nI_inj (by omega) (by omega) (d1.symm.trans h5)
  subst this
  obtain ⟨υ', e1, a1, a2, a3, a4, a5, a6⟩ := rz_c_beats (len := len) (v := v) hm m 0 (by omega) υ h5 (fun j hj => by rw [rz_bl2_lo (nb := nb') j hj]; exact d5 j hj)
  obtain ⟨φ', e2, b1, b2, b3, b4⟩ := rz_m_beats (v := v) hm m 0 (by omega) φ d2 (fun j hj => by omega)
  rw [e_27_84, e_58, show (0 : Int32) = nI 0 from rfl, e1, ra_kV, e2]
  have C : ∀ c, c ≠ 29 ∧ c ≠ 44 → υ'.1 c = υ.1 c := fun c hc => a1 c hc.1 hc.2
  have M : ∀ c, c ≠ 86 ∧ c ≠ 89 → (ra_ui φ' 86 18 (nI (nb' + m))).1 c = φ.1 c := fun c hc => by rw [ra_ui_1 c hc.1, b1 c hc.2]
  have M86 : ∀ j, j ≠ 18 → (ra_ui φ' 86 18 (nI (nb' + m))).1 86 j = φ.1 86 j := fun j hj => by rw [ra_ui_get, if_neg (fun q => hj q.2), b1 86 (by decide)]
  have gc : rz_gct υ υ' := ⟨fun c hc => a1 c (by omega) (by omega), by rw [a1 1 (by decide) (by decide)], fun j _ => by rw [a1 2 (by decide) (by decide)], a5, a6⟩
  have gm : rz_gmt φ (ra_ui φ' 86 18 (nI (nb' + m))) := by
    refine rz_gmt.tr (υ := φ') ⟨fun c hc => b1 c (by omega), fun j _ => by rw [b1 86 (by decide)], ?_, b4⟩ (rz_gmt_ui _ (by omega))
    rw [b1 90 (by decide), b1 91 (by decide), b1 92 (by decide), b1 93 (by decide), b1 94 (by decide), b1 95 (by decide), b1 96 (by decide)]
    exact ⟨fun j hj => b2 j (by omega), fun _ _ => rfl, fun _ _ => rfl, fun _ _ => rfl, fun _ _ => rfl, fun _ _ => rfl, fun _ _ => rfl, fun _ _ => rfl⟩
  refine Or.inl ⟨υ', _, n', k', rfl, rfl, rz_J_m (rz_J_c J (fun c hc => C c (by omega)) (by rw [C 1 (by decide)]; exact ⟨rfl, rfl⟩)) (fun j hj => M86 j (by omega)) ⟨M 87 (by decide), M 88 (by decide)⟩ ⟨M86 4 (by decide), M86 5 (by decide)⟩, nn, ⟨nb' + m, nl, np, nw, ?_⟩, g1.tr gc, g2.tr gm⟩
  rw [a2 2 (by decide), a2 3 (by decide), a2 4 (by decide), a2 7 (by decide)]
  simp only [C 30 (by decide), C 31 (by decide), C 32 (by decide), C 33 (by decide), C 34 (by decide), C 35 (by decide), C 36 (by decide), C 37 (by decide), C 38 (by decide), C 39 (by decide), C 40 (by decide), C 41 (by decide), C 42 (by decide), C 43 (by decide), C 45 (by decide), C 46 (by decide), C 47 (by decide), C 5 (by decide), C 6 (by decide), C 7 (by decide), C 8 (by decide), C 9 (by decide), M 90 (by decide), M 91 (by decide), M 92 (by decide), M 93 (by decide), M 96 (by decide), M 97 (by decide), M 98 (by decide), M 99 (by decide), M 100 (by decide), M86 19 (by decide), M86 20 (by decide), M86 21 (by decide), M86 22 (by decide), M86 23 (by decide), M86 24 (by decide)]
  refine ⟨q1, ⟨a3, by rw [ra_ui_get, if_pos ⟨rfl, rfl⟩], hm, rz_bl2 nb' v len, fun j hj => ?_, a4, ?_⟩, q3, q4, q5, rz_Qk_mono q6 nn⟩
  · rw [ra_ui_1 89 (by decide)]
    by_cases z : j < nb'
    · rw [b2 _ (by omega), show rz_bl2 nb' v len j = len j from if_pos z]; exact d4 j z
    · obtain ⟨i, rfl⟩ : ∃ i, j = nb' + i := ⟨j - nb', by omega⟩
      rw [show 40 + (nb' + i) = 40 + nb' + i by omega, b3 i (by omega), show rz_bl2 nb' v len (nb' + i) = v from if_neg (by omega)]
  · rw [rz_bl2_hi]
    have : m * v ≤ m * 4000 := Nat.mul_le_mul_left m hv
    omega
theorem rz_beatL (h : rz_J t N n k τ ψ) (hQ : rz_Q n τ ψ) : rz_Ln t N n (ra_C 27 [.ref 1, .ref 29] τ) (ra_C 162 [.ref 86] ψ) τ ψ := by
  obtain ⟨nb, nl, np, nw, q1, q2, q3, q4, q5, q6⟩ := id hQ
  obtain ⟨d1, d2, d3, -⟩ := q2
  rw [e_27, e_162, d1, d2]
  by_cases z : nb = 40
  · subst z
    rw [if_neg (show ¬ nI 40 < (40 : Int32) by decide), if_pos (show nI 40 = (40 : Int32) from rfl), rz_c_fail, ra_kI, rz_b01, e_145, ra_kI, rz_b01]
    exact rz_Ln_fail h _
  · rw [if_pos (show nI nb < (40 : Int32) from nI_lt (b := 40) (by omega) (by omega)), if_neg (show ¬ nI nb = (40 : Int32) from fun q => z (rz_nI_inj (b := 40) (by omega) (by omega) q))]
    obtain ⟨n1, k1, τ1, ψ1, e1, e2, J1, aft1, f1, f2⟩ := rz_stepJ h
    rw [e1, ra_kV, e2, ra_kV]
    rcases rz_num J1 (lo := 100) (hi := 4000) (by omega) (by omega) with ⟨τ2, ψ2, n2, k2, v, a1, a2, J2, aft2, f3, f4, l1, l2, w1, w2, z2⟩ | no
    · have a1' : ra_C 37 [.ref 1, .int 100, .int 4000] τ1 = ra_I 1 τ2 := a1
      have a2' : ra_C 153 [.ref 86, .int 100, .int 4000] ψ1 = ra_I 1 ψ2 := a2
      have nn : n ≤ n2 := Nat.le_trans aft1.1 aft2.1
      have F : rz_fn τ τ2 := f1.fn.tr f3
      have G : rz_fp ψ ψ2 := f2.fp.tr f4
      rw [a1', ra_kI, rz_10, a2', ra_kI, rz_10, show (6 : Int32) = nI 6 from rfl, rz_m_key J2 (w := 6) (by omega), ra_kI, w1, w2]
      have ck := rz_c_key J2 (w := 6) (by omega)
      by_cases y : k2 = (6, 6)
      · rw [if_pos (show τ2.1 2 5 = (8 : Int32) from ck.mpr y), rz_t y]
        obtain ⟨n3, k3, τ3, ψ3, e3, e4, J3, aft3, f5, f6⟩ := rz_stepJ J2
        have F3 : rz_fn τ τ3 := F.tr f5.fn
        have G3 : rz_fp ψ ψ3 := G.tr f6.fp
        have s40 : (40 : Int32) - nI nb = nI (40 - nb) := by
          obtain ⟨r, hr⟩ : ∃ r, 40 = r + nb := ⟨40 - nb, by omega⟩
          rw [show (40 : Int32) = nI 40 from rfl, hr, ← nI_add, Int32.add_sub_cancel, show r + nb - nb = r by omega]
        rw [e3, ra_kV, e4, ra_kV, F3.1 29 (by decide) (by decide), d1, G3.2.1 18 (by omega), d2, s40]
        rcases rz_num J3 (lo := 1) (hi := 40 - nb) (by omega) (by omega) with ⟨τ4, ψ4, n4, k4, m, b1, b2, J4, aft4, f7, f8, l3, l4, w3, w4, z4⟩ | no
        · have b1' : ra_C 37 [.ref 1, .int 1, .int (nI (40 - nb))] τ3 = ra_I 1 τ4 := b1
          have b2' : ra_C 153 [.ref 86, .int 1, .int (nI (40 - nb))] ψ3 = ra_I 1 ψ4 := b2
          rw [b1', ra_kI, rz_10, b2', ra_kI, rz_10, w3, w4]
          exact rz_addB J4 (rz_Q_eq hQ (Nat.le_refl _) (F3.tr f7) (G3.tr f8)) (Nat.le_trans nn (Nat.le_trans aft3.1 aft4.1)) (by rw [(F3.tr f7).1 29 (by decide) (by decide)]; exact d1) d3 (by omega) l2 (F3.tr f7).gct (G3.tr f8).gmt _
        · obtain ⟨υ, φ, b1, b2, b3, b4, b5⟩ := no
          have b1' : ra_C 37 [.ref 1, .int 1, .int (nI (40 - nb))] τ3 = ra_I 0 υ := b1
          have b2' : ra_C 153 [.ref 86, .int 1, .int (nI (40 - nb))] ψ3 = ra_I 0 φ := b2
          rw [b1', ra_kI, if_pos rfl, b2', ra_kI, if_pos rfl]
          exact Or.inr ⟨υ, φ, rfl, rfl, b5, F3.gct.tr b3.gct, G3.gmt.tr b4.gmt⟩
      · rw [if_neg (show ¬ τ2.1 2 5 = (8 : Int32) from fun q => y (ck.mp q)), rz_f y]
        exact rz_addB (m := 1) J2 (rz_Q_eq hQ (Nat.le_refl _) F G) nn (by rw [F.1 29 (by decide) (by decide)]; exact d1) d3 (by omega) l2 F.gct G.gmt _
    · obtain ⟨υ, φ, b1, b2, b3, b4, b5⟩ := no
      have b1' : ra_C 37 [.ref 1, .int 100, .int 4000] τ1 = ra_I 0 υ := b1
      have b2' : ra_C 153 [.ref 86, .int 100, .int 4000] ψ1 = ra_I 0 φ := b2
      rw [b1', ra_kI, if_pos rfl, b2', ra_kI, if_pos rfl]
      exact Or.inr ⟨υ, φ, rfl, rfl, b5, f1.fn.gct.tr b3.gct, f2.fp.gmt.tr b4.gmt⟩
end RZL2
