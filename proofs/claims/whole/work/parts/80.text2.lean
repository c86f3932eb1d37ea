-- ===== text: what was read and kept; written by wip/whole/gen80.py =====
theorem rz_tfC.tr {σ τ υ : ra_S} (h : rz_tfC σ τ) (g : rz_gcp τ υ) : rz_tfC σ υ := ⟨fun c hc => (g.1 c hc).trans (h.1 c hc), (g.2.1 2 (by omega)).trans h.2.1, g.2.2.1.trans h.2.2.1, g.2.2.2.trans h.2.2.2⟩
theorem rz_tfM.tr {σ τ υ : ra_S} (h : rz_tfM σ τ) (g : rz_gmt τ υ) : rz_tfM σ υ := by
  obtain ⟨h1, h2, h3, ⟨a1, a2, a3, a4, a5, a6, a7, a8⟩, h4⟩ := h
  obtain ⟨g1, g2, ⟨b1, b2, b3, b4, b5, b6, b7, b8⟩, g4⟩ := g
  exact ⟨fun c hc => (g1 c hc).trans (h1 c hc), fun k hk => (g2 k (by omega)).trans (h2 k hk), (g2 1 (by omega)).trans h3, ⟨fun k hk => (b1 k hk).trans (a1 k hk), fun k hk => (b2 k hk).trans (a2 k hk), fun k hk => (b3 k hk).trans (a3 k hk), fun k hk => (b4 k hk).trans (a4 k hk), fun k hk => (b5 k hk).trans (a5 k hk), fun k hk => (b6 k hk).trans (a6 k hk), fun k hk => (b7 k hk).trans (a7 k hk), fun k hk => (b8 k hk).trans (a8 k hk)⟩, g4.trans h4⟩
/-- what the relation says of what was read -/
def rz_Rd (np nb nl nw : Nat) (χ : ra_S) : Prop := rz_counts np nb nl nw χ ∧ rz_laws nl χ ∧ rz_players np nl χ ∧ rz_beats nb χ ∧ rz_wrongs np nw χ
/-- a text is told: both sides have a fault, or both have read the same -/
theorem rz_textP {σ ψ : ra_S} (hR : rz_R σ) (hψ : ∀ c, 86 ≤ c → ψ.1 c = σ.1 c) {N tc : Nat} (ht : σ.1 2 2 = nI tc) (htc : tc ≤ 800) (hN : N ≤ tc) :
    (∃ υ φ : ra_S, ra_C 24 [.ref 1, .int (nI N), .ref 29] σ = ra_I 0 υ ∧ ra_C 170 [.ref 86, .int (nI N)] ψ = ra_I (-1) φ ∧ rz_Fl υ φ ∧ rz_tfC σ υ ∧ rz_tfM ψ φ) ∨
    (∃ (υ φ : ra_S) (m np nb nl nw : Nat), ra_C 24 [.ref 1, .int (nI N), .ref 29] σ = ra_I 1 υ ∧ ra_C 170 [.ref 86, .int (nI N)] ψ = ra_I (nI m) φ ∧ υ.1 1 4 = nI m ∧ rz_Fl υ φ ∧ rz_tfC σ υ ∧ (∀ c, c < 86 ∨ c = 87 ∨ c = 88 → φ.1 c = ψ.1 c) ∧ φ.1 86 1 = 0 ∧ (∀ k, 39 ≤ k ∧ k ≤ 41 → φ.1 86 k = ψ.1 86 k) ∧ (φ.1 86 43 = 0 ∧ φ.1 86 47 = 0 ∧ φ.1 86 48 = -1) ∧ (∀ p, p < 8 → φ.1 101 p = 0) ∧ np ≤ 8 ∧
      (∀ p, p < np → (υ.1 38 p = φ.1 93 (5 * p + 1) ∧ rz_in (φ.1 93 (5 * p + 1)) 0 30) ∧ (υ.1 39 p = φ.1 93 (5 * p + 2) ∧ rz_in (φ.1 93 (5 * p + 2)) 0 30)) ∧
      ∀ χ : ra_S, (∀ c, 10 ≤ c → c ≤ 28 → χ.1 c = υ.1 (c + 19)) → (∀ c, 86 ≤ c → χ.1 c = φ.1 c) → rz_Rd np nb nl nw χ) := by
  obtain ⟨t, n, k, τ, φ0, e1, e2, J, Q, ms, h4, fc, fm⟩ := rz_beginT hR hψ ht htc hN
  rw [e1, e2]
  rcases rz_parse (N - n + rz_ms k) n k τ φ0 0 (some (.int (nI N))) none (some (.int (nI N))) (Nat.le_refl _) J Q (by omega) h4 with ⟨υ, φ, n', m, a1, a2, a3, a4, a5, a6, a7, a8⟩ | ⟨υ, φ, a1, a2, a3, a4, a5⟩
  · obtain ⟨nb, nl, np, nw, q1, q2, q3, q4, q5, q6⟩ := a4
    rw [a1, a2]
    rcases rz_resolve (by omega) q4 q6 with ⟨υ', φ', b1, b2, b3, b4, b5, b6, b7, b8⟩ | ⟨υ', φ', b1, b2, b3, b4, b5⟩
    · obtain ⟨φ2, k1, k2, ⟨c89, c90, c91, c92, c93, c94, c95, c96⟩, k4, ⟨k12, k13, k14, k15, k16, k17⟩, ⟨k47, k48, k43⟩, k7, k8⟩ := rz_m_keep φ'
      refine Or.inr ⟨υ', φ2, m, np, nb, nl, nw, by rw [b1, ra_kI, if_pos (Or.inr rfl)], by rw [b2, ra_kI, rz_10, k1, ra_kV], by rw [b3 1 (by decide) (by decide)]; exact a5, ?_, ?_, fun c hc => ?_, ?_, fun k hk => ?_, ⟨k43, k47, k48⟩, k4, q4.2.2.1, fun p hp => ?_, fun χ hc hm => ?_⟩
      · unfold rz_Fl
        rw [b3 1 (by decide) (by decide), k7 4 (by omega) (by decide) (by decide) (by decide), k7 5 (by omega) (by decide) (by decide) (by decide), b5 86 (by decide) (by decide)]
        exact a8
      · have f1 := fc.tr a6
        exact ⟨fun c hc => (b3 c (by omega) (by omega)).trans (f1.1 c hc), by rw [b3 2 (by decide) (by decide)]; exact f1.2.1, by rw [b3 44 (by decide) (by decide)]; exact f1.2.2.1, b4.trans f1.2.2.2⟩
      · rw [k2 c (by omega) (by omega) (by omega), b5 c (by omega) (by omega)]
        exact (fm.tr a7).1 c (by omega)
      · rw [k7 1 (by omega) (by decide) (by decide) (by decide), b5 86 (by decide) (by decide)]
        exact (fm.tr a7).2.2.1
      · rw [k7 k (by omega) (by omega) (by omega) (by omega), b5 86 (by decide) (by decide)]
        exact (fm.tr a7).2.1 k (by omega)
      · obtain ⟨-, -, p3, p4, -⟩ := q4.2.2.2 p hp
        have := q4.2.2.1
        rw [b3 38 (by decide) (by decide), b3 39 (by decide) (by decide), c93 _ (by omega), c93 _ (by omega), b5 93 (by decide) (by decide), ← Nat.add_assoc, ← Nat.add_assoc]
        exact ⟨p3, p4⟩
      · have np8 := q4.2.2.1
        have nb4 := q2.2.2.1
        have nl6 := q3.2.2.1
        have nw6 := q5.2.2.1
        have x10 : χ.1 10 = υ.1 29 := (hc 10 (by omega) (by omega)).trans (b3 29 (by decide) (by decide))
        have x11 : χ.1 11 = υ.1 30 := (hc 11 (by omega) (by omega)).trans (b3 30 (by decide) (by decide))
        have x12 : χ.1 12 = υ.1 31 := (hc 12 (by omega) (by omega)).trans (b3 31 (by decide) (by decide))
        have x13 : χ.1 13 = υ.1 32 := (hc 13 (by omega) (by omega)).trans (b3 32 (by decide) (by decide))
        have x14 : χ.1 14 = υ.1 33 := (hc 14 (by omega) (by omega)).trans (b3 33 (by decide) (by decide))
        have x15 : χ.1 15 = υ.1 34 := (hc 15 (by omega) (by omega)).trans (b3 34 (by decide) (by decide))
        have x16 : χ.1 16 = υ.1 35 := (hc 16 (by omega) (by omega)).trans (b3 35 (by decide) (by decide))
        have x17 : χ.1 17 = υ.1 36 := (hc 17 (by omega) (by omega)).trans (b3 36 (by decide) (by decide))
        have x18 : χ.1 18 = υ.1 37 := (hc 18 (by omega) (by omega)).trans (b3 37 (by decide) (by decide))
        have x19 : χ.1 19 = υ.1 38 := (hc 19 (by omega) (by omega)).trans (b3 38 (by decide) (by decide))
        have x20 : χ.1 20 = υ.1 39 := (hc 20 (by omega) (by omega)).trans (b3 39 (by decide) (by decide))
        have x21 : χ.1 21 = υ.1 40 := (hc 21 (by omega) (by omega)).trans (b3 40 (by decide) (by decide))
        have x22 : χ.1 22 = υ.1 41 := (hc 22 (by omega) (by omega)).trans (b3 41 (by decide) (by decide))
        have x23 : χ.1 23 = υ'.1 42 := hc 23 (by omega) (by omega)
        have x24 : χ.1 24 = υ'.1 43 := hc 24 (by omega) (by omega)
        have x25 : χ.1 25 = υ.1 44 := (hc 25 (by omega) (by omega)).trans (b3 44 (by decide) (by decide))
        have x26 : χ.1 26 = υ.1 45 := (hc 26 (by omega) (by omega)).trans (b3 45 (by decide) (by decide))
        have x27 : χ.1 27 = υ.1 46 := (hc 27 (by omega) (by omega)).trans (b3 46 (by decide) (by decide))
        have x28 : χ.1 28 = υ.1 47 := (hc 28 (by omega) (by omega)).trans (b3 47 (by decide) (by decide))
        have y12 : χ.1 86 12 = φ.1 86 18 := by rw [hm 86 (by omega), k12, b5 86 (by decide) (by decide)]
        have y13 : χ.1 86 13 = φ.1 86 19 := by rw [hm 86 (by omega), k13, b5 86 (by decide) (by decide)]
        have y14 : χ.1 86 14 = φ.1 86 20 := by rw [hm 86 (by omega), k14, b5 86 (by decide) (by decide)]
        have y15 : χ.1 86 15 = φ.1 86 21 := by rw [hm 86 (by omega), k15, b5 86 (by decide) (by decide)]
        have y16 : χ.1 86 16 = φ.1 86 22 := by rw [hm 86 (by omega), k16, b5 86 (by decide) (by decide)]
        have y17 : χ.1 86 17 = φ.1 86 23 := by rw [hm 86 (by omega), k17, b5 86 (by decide) (by decide)]
        have z89 : ∀ k, k < 40 → χ.1 89 k = φ.1 89 (40 + k) := fun k hk => by rw [hm 89 (by omega), c89 k hk, b5 89 (by decide) (by decide)]
        have z90 : ∀ k, k < 6 → χ.1 90 k = φ.1 90 (6 + k) := fun k hk => by rw [hm 90 (by omega), c90 k hk, b5 90 (by decide) (by decide)]
        have z91 : ∀ k, k < 36 → χ.1 91 k = φ.1 91 (36 + k) := fun k hk => by rw [hm 91 (by omega), c91 k hk, b5 91 (by decide) (by decide)]
        have z92 : ∀ k, k < 8 → χ.1 92 k = φ.1 92 (8 + k) := fun k hk => by rw [hm 92 (by omega), c92 k hk, b5 92 (by decide) (by decide)]
        have z93 : ∀ k, k < 40 → χ.1 93 k = φ.1 93 (40 + k) := fun k hk => by rw [hm 93 (by omega), c93 k hk, b5 93 (by decide) (by decide)]
        have z96 : ∀ k, k < 21 → χ.1 96 k = φ.1 96 (21 + k) := fun k hk => by rw [hm 96 (by omega), c96 k hk, b5 96 (by decide) (by decide)]
        have z94 : ∀ k, k < 8 → χ.1 94 k = φ'.1 94 (8 + k) := fun k hk => by rw [hm 94 (by omega), c94 k hk]
        have z95 : ∀ k, k < 8 → χ.1 95 k = φ'.1 95 (8 + k) := fun k hk => by rw [hm 95 (by omega), c95 k hk]
        refine ⟨⟨⟨by rw [x16]; exact q4.1, by rw [y14]; exact q4.2.1, np8⟩, ⟨by rw [x10]; exact q2.1, by rw [y12]; exact q2.2.1, nb4⟩, ⟨by rw [x11]; exact q3.1, by rw [y13]; exact q3.2.1, nl6⟩, ⟨by rw [x10]; exact q5.1, by rw [y15]; exact q5.2.1, nw6⟩, by rw [x10, y16]; exact q1.1, by rw [x10, y17]; exact q1.2.1⟩, fun l hl => ?_, fun p hp => ?_, ?_, fun w hw => ?_⟩
        · obtain ⟨l1, l2, l3, l4, l5⟩ := q3.2.2.2 l hl
          rw [x12, x14, x15, z90 l (by omega), z91 (6 * l + 4) (by omega), z91 (6 * l + 5) (by omega), ← Nat.add_assoc, ← Nat.add_assoc]
          refine ⟨l1, fun w hw => ?_, l3, l4, l5⟩
          rw [x13, z91 (6 * l + w) (by omega), ← Nat.add_assoc]
          exact l2 w hw
        · obtain ⟨p1, p2, -, -, p5, p6, -, -⟩ := q4.2.2.2 p hp
          obtain ⟨s1, s2⟩ := b8 p hp
          rw [x17, x18, x21, x22, x23, x24, z92 p (by omega), z93 (5 * p) (by omega), z93 (5 * p + 3) (by omega), z93 (5 * p + 4) (by omega), z94 p (by omega), z95 p (by omega), ← Nat.add_assoc, ← Nat.add_assoc]
          exact ⟨p1, p2, p5, p6, s1, s2⟩
        · obtain ⟨-, -, -, len, d4, d5, d6⟩ := q2
          refine ⟨len, fun k hk => ?_, fun j hj => ?_, by omega⟩
          · rw [z89 k (by omega)]; exact d4 k hk
          · rw [x25]; exact d5 j hj
        · obtain ⟨w1, w2, w3, w4⟩ := q5.2.2.2 w hw
          rw [x26, x27, x28, z96 (3 * w) (by omega), z96 (3 * w + 1) (by omega), z96 (3 * w + 2) (by omega), ← Nat.add_assoc, ← Nat.add_assoc]
          exact ⟨w1, w2, w3, w4⟩
    · refine Or.inl ⟨υ', φ', by rw [b1, ra_kI, if_pos (Or.inl rfl)], by rw [b2, ra_kI, rz_00], b3, (fc.tr a6).tr b4.p, (fm.tr a7).tr b5⟩
  · exact Or.inl ⟨υ, φ, a1, a2, a3, fc.tr a4, fm.tr a5⟩
