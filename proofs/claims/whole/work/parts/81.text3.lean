-- ===== text: the same answer, the relation kept =====
/-- the class's two scores, changed -/
def rz_wap (c : Nat) : Nat := if 10 ≤ c ∧ c ≤ 28 then c + 19 else if 29 ≤ c ∧ c ≤ 47 then c - 19 else c
def rz_pm (σ : ra_S) : ra_S := (fun c => σ.1 (rz_wap c), fun c => σ.2 (rz_wap c))
theorem rz_wap_o {c : Nat} (h : c < 10 ∨ 47 < c) : rz_wap c = c := by
  unfold rz_wap
  rw [if_neg (fun q => by omega), if_neg (fun q => by omega)]
theorem rz_wap_lo {c : Nat} (h : 10 ≤ c) (h2 : c ≤ 28) : rz_wap c = c + 19 := if_pos ⟨h, h2⟩
theorem rz_wap_hi {c : Nat} (h : 29 ≤ c) (h2 : c ≤ 47) : rz_wap c = c - 19 := by
  unfold rz_wap
  rw [if_neg (fun q => by omega), if_pos ⟨h, h2⟩]
theorem rz_Rd_eq {np nb nl nw : Nat} {σ χ : ra_S} (h : rz_Rd np nb nl nw σ) (hc : ∀ c, 10 ≤ c → c ≤ 28 → χ.1 c = σ.1 c) (h86 : ∀ k, 12 ≤ k ∧ k ≤ 17 → χ.1 86 k = σ.1 86 k)
    (z : (∀ k, k < 40 → χ.1 89 k = σ.1 89 k) ∧ (∀ k, k < 6 → χ.1 90 k = σ.1 90 k) ∧ (∀ k, k < 36 → χ.1 91 k = σ.1 91 k) ∧ (∀ k, k < 8 → χ.1 92 k = σ.1 92 k) ∧ (∀ k, k < 40 → χ.1 93 k = σ.1 93 k) ∧ (∀ k, k < 8 → χ.1 94 k = σ.1 94 k) ∧ (∀ k, k < 8 → χ.1 95 k = σ.1 95 k) ∧ (∀ k, k < 21 → χ.1 96 k = σ.1 96 k)) : rz_Rd np nb nl nw χ := by
  obtain ⟨z89, z90, z91, z92, z93, z94, z95, z96⟩ := z
  obtain ⟨q0, q1, q2, q3, q4⟩ := h
  have x10 := hc 10 (by omega) (by omega)
  have x11 := hc 11 (by omega) (by omega)
  have x12 := hc 12 (by omega) (by omega)
  have x13 := hc 13 (by omega) (by omega)
  have x14 := hc 14 (by omega) (by omega)
  have x15 := hc 15 (by omega) (by omega)
  have x16 := hc 16 (by omega) (by omega)
  have x17 := hc 17 (by omega) (by omega)
  have x18 := hc 18 (by omega) (by omega)
  have x21 := hc 21 (by omega) (by omega)
  have x22 := hc 22 (by omega) (by omega)
  have x23 := hc 23 (by omega) (by omega)
  have x24 := hc 24 (by omega) (by omega)
  have x25 := hc 25 (by omega) (by omega)
  have x26 := hc 26 (by omega) (by omega)
  have x27 := hc 27 (by omega) (by omega)
  have x28 := hc 28 (by omega) (by omega)
  have np8 := q0.1.2.2
  have nb4 := q0.2.1.2.2
  have nl6 := q0.2.2.1.2.2
  have nw6 := q0.2.2.2.1.2.2
  refine ⟨?_, fun l hl => ?_, fun p hp => ?_, ?_, fun w hw => ?_⟩
  · unfold rz_counts
    rw [x10, x11, x16, h86 12 (by omega), h86 13 (by omega), h86 14 (by omega), h86 15 (by omega), h86 16 (by omega), h86 17 (by omega)]
    exact q0
  · obtain ⟨l1, l2, l3, l4, l5⟩ := q1 l hl
    rw [x12, x14, x15, z90 l (by omega), z91 (6 * l + 4) (by omega), z91 (6 * l + 5) (by omega)]
    refine ⟨l1, fun w hw => ?_, l3, l4, l5⟩
    rw [x13, z91 (6 * l + w) (by omega)]
    exact l2 w hw
  · have := q2 p hp
    rw [x17, x18, x21, x22, x23, x24, z92 p (by omega), z93 (5 * p) (by omega), z93 (5 * p + 3) (by omega), z93 (5 * p + 4) (by omega), z94 p (by omega), z95 p (by omega)]
    exact this
  · obtain ⟨len, d4, d5, d6⟩ := q3
    exact ⟨len, fun k hk => by rw [z89 k (by omega)]; exact d4 k hk, fun j hj => by rw [x25]; exact d5 j hj, d6⟩
  · have := q4 w hw
    rw [x26, x27, x28, z96 (3 * w) (by omega), z96 (3 * w + 1) (by omega), z96 (3 * w + 2) (by omega)]
    exact this
theorem rz_R_of {np nb nl nw ku tp nn tc : Nat} {χ : ra_S} (h : rz_Rd np nb nl nw χ) (h2 : rz_stage np χ) (h3 : rz_undo np ku tp χ) (h4 : rz_notes np nb nn χ) (h5 : rz_tape tc χ) (h6 : rz_still χ) : rz_R χ := ⟨np, nb, nl, nw, ku, tp, nn, tc, h.1, h.2.1, h.2.2.1, h.2.2.2.1, h.2.2.2.2, h2, h3, h4, h5, h6⟩
theorem rz_text {σ : ra_S} (h : rz_R σ) (n : Int32) :
    (∃ (v : Int32) (σ1 σ2 : ra_S), ra_D (ra_lay, none, 61, ra_m78) 0 [some (.ref 0), some (.int n), none, none] [] σ = ra_I v σ1 ∧ ra_C 170 [.ref 86, .int n] σ1 = ra_I v σ2 ∧ rz_R σ2) ∨
    (∃ (x : Int32) (τ : ra_S) (v : Int32) (σ1 σ2 : ra_S), ra_D (ra_lay, none, 61, ra_m78) 0 [some (.ref 0), some (.int n), none, none] [] σ = some (.inr ([some (.ref 0), some (.int n), some (.int x), some (.ref 10)], [.ref 29, .ref 0]), τ) ∧ (∀ o1 o2 o3, ra_D (ra_lay, none, 99999, ra_m78) 69 [some (.ref 0), o1, o2, o3] [] (rz_pm τ) = ra_I v σ1) ∧ ra_C 170 [.ref 86, .int n] σ1 = ra_I v σ2 ∧ rz_R σ2) := by
  obtain ⟨np, nb, nl, nw, ku, tp, nn, tc, r1, r2, r3, r4, r5, r6, r7, r8, ⟨t1, t2, t3, t4, t5, t6, t7, t8⟩, r10⟩ := id h
  by_cases n0 : n < 0
  · refine Or.inl ⟨-2, σ, ra_ui σ 86 2 0, by rw [e_78s, if_pos n0], by rw [e_170, if_pos n0], rz_R_ui rfl h⟩
  by_cases n1 : nI tc < n
  · refine Or.inl ⟨-2, σ, ra_ui σ 86 2 0, by rw [e_78s, if_neg n0, t1, if_pos n1], by rw [e_170, if_neg n0, t2, if_pos n1], rz_R_ui rfl h⟩
  obtain ⟨N, N1, rfl⟩ := nI_of n0
  have hN : N ≤ tc := by
    rcases Nat.lt_or_ge tc N with q | q
    · exact absurd (nI_lt q N1) n1
    · exact q
  rcases rz_textP h (fun _ _ => rfl) t1 t3 hN with ⟨υ, -, a1, -, -, fc, -⟩ | ⟨υ, -, -, -, -, -, -, a1, -, -, -, fc, -⟩
  · -- a fault
    have f86 : ∀ c, 86 ≤ c → (ra_ui υ 2 2 0).1 c = σ.1 c := fun c hc => by rw [ra_ui_1 c (by omega), fc.1 c (by omega)]
    rcases rz_textP h f86 t1 t3 hN with ⟨υ', φ, b1, b2, b3, -, fm⟩ | ⟨υ', φ, m, _, _, _, _, b1, -⟩
    · have : υ' = υ := by
        rw [a1] at b1
        injection b1 with b1
        injection b1 with b1 b2
        exact b2.symm
      subst this
      refine Or.inl ⟨-1, ra_ui υ' 2 2 0, φ, by rw [e_78s, if_neg n0, t1, if_neg n1, a1, ra_kI, if_pos rfl], b2, ?_⟩
      have E : ∀ c, ¬ (c = 1 ∨ c = 2 ∨ (5 ≤ c ∧ c ≤ 9) ∨ (29 ≤ c ∧ c ≤ 47) ∨ c = 86 ∨ (89 ≤ c ∧ c ≤ 100)) → φ.1 c = σ.1 c := fun c hc => by rw [fm.1 c (by omega), ra_ui_1 c (by omega), fc.1 c (by omega)]
      have E86 : ∀ k, ¬ (k = 1 ∨ k = 2 ∨ (4 ≤ k ∧ k ≤ 11) ∨ (18 ≤ k ∧ k ≤ 24)) → φ.1 86 k = σ.1 86 k := fun k hk => by rw [fm.2.1 k hk, f86 86 (Nat.le_refl _)]
      have Ez := fm.2.2.2.1
      simp only [f86 89 (by omega), f86 90 (by omega), f86 91 (by omega), f86 92 (by omega), f86 93 (by omega), f86 94 (by omega), f86 95 (by omega), f86 96 (by omega)] at Ez
      have np8 := r1.1.2.2
      refine rz_R_of (rz_Rd_eq ⟨r1, r2, r3, r4, r5⟩ (fun c c1 c2 => E c (by omega)) (fun k hk => E86 k (by omega)) Ez) (fun p hp => ?_) (tp := tp) (ku := ku) ?_ (nn := nn) ?_ (tc := 0) ⟨?_, fm.2.2.1, by omega, fun i hi => absurd hi (Nat.not_lt_zero i), ?_, ?_, fun i hi => ?_, fun i hi => ?_⟩ ?_
      · have := r6 p hp
        rw [E 49 (by omega), E 50 (by omega), E 51 (by omega), E 101 (by omega), Ez.2.2.2.2.1 _ (by omega), Ez.2.2.2.2.1 _ (by omega)]
        exact this
      · unfold rz_undo at r7 ⊢
        simp only [E 48 (by omega), E 49 (by omega), E 50 (by omega), E 51 (by omega), E 52 (by omega), E 53 (by omega), E 54 (by omega), E 55 (by omega), E 103 (by omega), E86 43 (by omega)]
        exact r7
      · unfold rz_notes at r8 ⊢
        simp only [E 56 (by omega), E 57 (by omega), E 58 (by omega), E 59 (by omega), E 60 (by omega), E 106 (by omega), E 107 (by omega), E 108 (by omega), E86 47 (by omega), E86 48 (by omega)]
        exact r8
      · rw [fm.1 2 (by omega), ra_ui_get, if_pos ⟨rfl, rfl⟩]; rfl
      · rw [fm.1 1 (by omega), ra_ui_1 1 (by decide)]; exact b3.1
      · rw [fm.1 1 (by omega), ra_ui_1 1 (by decide)]; exact b3.2
      · rw [E 4 (by omega)]; exact t7 i hi
      · rw [E 88 (by omega)]; exact t8 i hi
      · unfold rz_still at r10 ⊢
        have e44 : φ.1 44 0 = σ.1 44 0 := by rw [fm.1 44 (by omega), ra_ui_1 44 (by decide), fc.2.2.1]
        rw [E86 39 (by omega), E86 40 (by omega), E86 41 (by omega), E 75 (by omega), e44]
        exact r10
    · rw [a1] at b1
      injection b1 with b1
      injection b1 with b1 b2
      injection b1 with b1
      injection b1 with b1
      injection b1 with b1
      exact absurd b1 (by decide)
  · -- read
    obtain ⟨s1, e1, g1, g2, g3, g4, g5⟩ := rz_c_setl (rz_pm (ra_ui υ 2 2 0))
    obtain ⟨s2, hs2⟩ : ∃ s2 : ra_S, s2 = ra_ui (ra_ui s1 56 0 0) 56 1 (-1) := ⟨_, rfl⟩
    have s2c : ∀ c, c ≠ 56 → s2.1 c = s1.1 c := fun c hc => by rw [hs2, ra_ui_1 c hc, ra_ui_1 c hc]
    have P : ∀ c, c ≠ 48 → c ≠ 49 → c ≠ 50 → c ≠ 51 → c ≠ 56 → s2.1 c = (ra_ui υ 2 2 0).1 (rz_wap c) := fun c c1 c2 c3 c4 c5 => by rw [s2c c c5, g1 c c1 c2 c3 c4]; rfl
    have Po : ∀ c, (c < 10 ∨ 47 < c) → c ≠ 2 → c ≠ 48 → c ≠ 49 → c ≠ 50 → c ≠ 51 → c ≠ 56 → s2.1 c = υ.1 c := fun c h1 h2 c1 c2 c3 c4 c5 => by rw [P c c1 c2 c3 c4 c5, rz_wap_o h1, ra_ui_1 c h2]
    have f86 : ∀ c, 86 ≤ c → s2.1 c = σ.1 c := fun c hc => by rw [Po c (by omega) (by omega) (by omega) (by omega) (by omega) (by omega) (by omega), fc.1 c (by omega)]
    rcases rz_textP h f86 t1 t3 hN with ⟨υ', φ, b1, -⟩ | ⟨υ', φ, m, np', nb', nl', nw', b1, b2, b3, b4, -, b5, b6, b7, ⟨b8, b9, b10⟩, b11, b12, b13, b14⟩
    · rw [a1] at b1
      injection b1 with b1
      injection b1 with b1 b2
      injection b1 with b1
      injection b1 with b1
      injection b1 with b1
      exact absurd b1 (by decide)
    · have : υ' = υ := by
        rw [a1] at b1
        injection b1 with b1
        injection b1 with b1 b2
        exact b2.symm
      subst this
      have r14 : s2.1 1 4 = nI m := by rw [Po 1 (by omega) (by decide) (by decide) (by decide) (by decide) (by decide) (by decide)]; exact b3
      refine Or.inr ⟨1, ra_ui υ' 2 2 0, nI m, s2, φ, by rw [e_78s, if_neg n0, t1, if_neg n1, a1, ra_kI, if_neg (by decide)], fun o1 o2 o3 => by rw [e_78_69, e1, ra_kV, e_10, ra_kV, ← hs2, r14], b2, ?_⟩
      have F : ∀ c, c < 86 → φ.1 c = s2.1 c := fun c hc => b5 c (Or.inl hc)
      have Rd := b14 φ (fun c c1 c2 => by rw [F c (by omega), P c (by omega) (by omega) (by omega) (by omega) (by omega), rz_wap_lo c1 c2, ra_ui_1 _ (by omega)]) (fun _ _ => rfl)
      have p49 : ∀ p, p < 8 → φ.1 49 p = υ'.1 38 p ∧ φ.1 50 p = υ'.1 39 p ∧ φ.1 51 p = 0 := fun p hp => by
        obtain ⟨k1, k2, k3⟩ := g2 p hp
        rw [F 49 (by decide), F 50 (by decide), F 51 (by decide), s2c 49 (by decide), s2c 50 (by decide), s2c 51 (by decide)]
        refine ⟨k1.trans ?_, k2.trans ?_, k3⟩
        · show (ra_ui υ' 2 2 0).1 (rz_wap 19) p = υ'.1 38 p
          rw [rz_wap_lo (by omega) (by omega), ra_ui_1 _ (by decide)]
        · show (ra_ui υ' 2 2 0).1 (rz_wap 20) p = υ'.1 39 p
          rw [rz_wap_lo (by omega) (by omega), ra_ui_1 _ (by decide)]
      refine rz_R_of Rd (fun p hp => ?_) (tp := 0) (ku := 0) ⟨?_, b8, by omega, ?_, by omega, fun _ p => (φ.1 49 p, φ.1 50 p, φ.1 51 p), fun _ _ => rfl, fun j hj => absurd hj (Nat.not_lt_zero j)⟩ (nn := 0) ⟨?_, b9, by omega, ?_, ?_, fun k hk => absurd hk (Nat.not_lt_zero k)⟩ (tc := 0) ⟨?_, b6, by omega, fun i hi => absurd hi (Nat.not_lt_zero i), ?_, ?_, fun i hi => ?_, fun i hi => ?_⟩ ?_
      · obtain ⟨u1, u2⟩ := b13 p hp
        obtain ⟨w1, w2, w3⟩ := p49 p (by omega)
        rw [w1, w2, w3, b11 p (by omega)]
        exact ⟨u1, u2, rfl, by decide⟩
      · rw [F 48 (by decide), s2c 48 (by decide)]; exact g3
      · rw [F 48 (by decide), s2c 48 (by decide)]; exact g4
      · rw [F 56 (by decide), hs2]; rfl
      · rw [F 56 (by decide), hs2, b10]; rfl
      · rw [b10]; decide
      · rw [F 2 (by decide), P 2 (by decide) (by decide) (by decide) (by decide) (by decide), rz_wap_o (by omega), ra_ui_get, if_pos ⟨rfl, rfl⟩]; rfl
      · rw [F 1 (by decide), Po 1 (by omega) (by decide) (by decide) (by decide) (by decide) (by decide) (by decide)]; exact b4.1
      · rw [F 1 (by decide), Po 1 (by omega) (by decide) (by decide) (by decide) (by decide) (by decide) (by decide)]; exact b4.2
      · rw [F 4 (by decide), Po 4 (by omega) (by decide) (by decide) (by decide) (by decide) (by decide) (by decide), fc.1 4 (by omega)]; exact t7 i hi
      · rw [b5 88 (by omega), f86 88 (by omega)]; exact t8 i hi
      · obtain ⟨u1, ⟨u2, -⟩, u3, u4⟩ := r10
        obtain ⟨len, -, d5, -⟩ := r4
        refine ⟨?_, ⟨?_, ?_⟩, ?_, fun p hp => ?_⟩
        · rw [b7 39 (by omega), f86 86 (by omega)]; exact u1
        · rw [b7 40 (by omega), f86 86 (by omega)]; exact u2
        · rw [F 44 (by decide), P 44 (by decide) (by decide) (by decide) (by decide) (by decide), rz_wap_hi (by omega) (by omega), ra_ui_1 _ (by decide)]
          show υ'.1 25 0 = 0
          rw [fc.1 25 (by omega)]
          exact d5 0 (Nat.zero_le _)
        · rw [b7 41 (by omega), f86 86 (by omega)]; exact u3
        · rw [F 75 (by decide), Po 75 (by omega) (by decide) (by decide) (by decide) (by decide) (by decide) (by decide), fc.1 75 (by omega)]; exact u4 p hp
