-- ===== text: from its start to what was read =====
def rz_tfC (σ υ : ra_S) : Prop := (∀ c, ¬ (c = 1 ∨ c = 2 ∨ (5 ≤ c ∧ c ≤ 9) ∨ (29 ≤ c ∧ c ≤ 47)) → υ.1 c = σ.1 c) ∧ υ.1 2 2 = σ.1 2 2 ∧ υ.1 44 0 = σ.1 44 0 ∧ υ.2 = σ.2
def rz_tfM (ψ φ : ra_S) : Prop := (∀ c, ¬ (c = 86 ∨ (89 ≤ c ∧ c ≤ 100)) → φ.1 c = ψ.1 c) ∧ (∀ k, ¬ (k = 1 ∨ k = 2 ∨ (4 ≤ k ∧ k ≤ 11) ∨ (18 ≤ k ∧ k ≤ 24)) → φ.1 86 k = ψ.1 86 k) ∧ φ.1 86 1 = 0 ∧ ((∀ k, k < 40 → φ.1 89 k = ψ.1 89 k) ∧ (∀ k, k < 6 → φ.1 90 k = ψ.1 90 k) ∧ (∀ k, k < 36 → φ.1 91 k = ψ.1 91 k) ∧ (∀ k, k < 8 → φ.1 92 k = ψ.1 92 k) ∧ (∀ k, k < 40 → φ.1 93 k = ψ.1 93 k) ∧ (∀ k, k < 8 → φ.1 94 k = ψ.1 94 k) ∧ (∀ k, k < 8 → φ.1 95 k = ψ.1 95 k) ∧ (∀ k, k < 21 → φ.1 96 k = ψ.1 96 k)) ∧ φ.2 = ψ.2
theorem rz_byt1 {x : Int32} (h : rz_in x 0 255) : x = nI x.toInt.toNat ∧ x.toInt.toNat ≤ 255 := by
  refine ⟨Int32.toInt_inj.mp ?_, by omega⟩
  rw [nI_toInt (by omega)]
  omega
theorem rz_Kc_0 {k : Nat × Nat} : rz_ms k ≤ 1 := by unfold rz_ms; split <;> omega
theorem rz_open {τ : ra_S} {N tc : Nat} (h : τ.1 2 2 = nI tc) (htc : tc ≤ 800) (hN : N ≤ tc) : ra_C 73 [.ref 2, .int (nI N)] τ = (ra_C 74 [.ref 2] (ra_ui (ra_ui τ 2 3 (nI N)) 2 4 (0 : Int32))).bind (ra_kv fun s5 => some (.inl (none), s5)) := by
  rw [e_73, h, e_251, show (800 : Int32) = nI 800 from rfl, rz_inl (by omega) htc, ra_kI, e_251, rz_inl (by omega) hN, ra_kI]
/-- both begin a text -/
theorem rz_beginT {σ ψ : ra_S} (hR : rz_R σ) (hψ : ∀ c, 86 ≤ c → ψ.1 c = σ.1 c) {N tc : Nat} (ht : σ.1 2 2 = nI tc) (htc : tc ≤ 800) (hN : N ≤ tc) :
    ∃ (t : Nat → Nat) (n : Nat) (k : Nat × Nat) (τ φ : ra_S), ra_C 24 [.ref 1, .int (nI N), .ref 29] σ = ra_D (ra_lay, none, 99999, ra_m24) 8 [some (.ref 1), some (.int (nI N)), some (.ref 29), some (.int (nI 0)), none] [] τ ∧ ra_C 170 [.ref 86, .int (nI N)] ψ = ra_D (ra_lay, none, 99999, ra_m170) 55 [some (.ref 86), some (.int (nI N)), some (.int (nI 0))] [] φ ∧
      rz_J t N n k τ φ ∧ rz_Q n τ φ ∧ rz_ms k ≤ n ∧ τ.1 1 4 = nI 0 ∧ rz_tfC σ τ ∧ rz_tfM ψ φ := by
  obtain ⟨np, nb, nl, nw, ku, tp, nn, tc', -, -, -, -, -, -, -, -, ⟨t1, t2, t3, t4, -, -, t7, t8⟩, ⟨-, ⟨-, s44⟩, -⟩⟩ := hR
  have : tc' = tc := rz_nI_inj (by omega) (by omega) (t1.symm.trans ht)
  subst this
  obtain ⟨τ0, h0⟩ : ∃ τ0 : ra_S, τ0 = ra_ui (ra_ui (ra_ui (ra_ui (ra_ui (ra_ui (ra_ui (ra_ui (ra_ui (ra_ui (ra_ui (ra_ui (ra_ui σ 1 2 (0 : Int32)) 1 3 (-1 : Int32)) 1 4 (0 : Int32)) 5 0 (0 : Int32)) 30 0 (0 : Int32)) 35 0 (0 : Int32)) 29 2 (0 : Int32)) 29 3 (15 : Int32)) 29 4 (0 : Int32)) 29 5 (0 : Int32)) 29 7 (0 : Int32)) 2 3 (nI N)) 2 4 (0 : Int32) := ⟨_, rfl⟩
  obtain ⟨ψ0, g0⟩ : ∃ ψ0 : ra_S, ψ0 = ra_ui (ra_ui (ra_ui (ra_ui (ra_ui (ra_ui (ra_ui (ra_ui (ra_ui (ra_ui (ra_ui (ra_ui (ra_ui ψ 86 2 (0 : Int32)) 86 6 (nI N)) 86 1 (0 : Int32)) 86 4 (0 : Int32)) 86 5 (-1 : Int32)) 86 7 (0 : Int32)) 86 18 (0 : Int32)) 86 19 (0 : Int32)) 86 20 (0 : Int32)) 86 21 (0 : Int32)) 86 22 (15 : Int32)) 86 23 (0 : Int32)) 86 24 (0 : Int32) := ⟨_, rfl⟩
  have c0 : ∀ c, c ≠ 1 → c ≠ 2 → c ≠ 5 → c ≠ 29 → c ≠ 30 → c ≠ 35 → τ0.1 c = σ.1 c := fun c c1 c2 c3 c4 c5 c6 => by
    rw [h0, ra_ui_1 c c2, ra_ui_1 c c2, ra_ui_1 c c4, ra_ui_1 c c4, ra_ui_1 c c4, ra_ui_1 c c4, ra_ui_1 c c4, ra_ui_1 c c6, ra_ui_1 c c5, ra_ui_1 c c3, ra_ui_1 c c1, ra_ui_1 c c1, ra_ui_1 c c1]
  have m0 : ∀ c, c ≠ 86 → ψ0.1 c = ψ.1 c := fun c hc => by
    rw [g0, ra_ui_1 c hc, ra_ui_1 c hc, ra_ui_1 c hc, ra_ui_1 c hc, ra_ui_1 c hc, ra_ui_1 c hc, ra_ui_1 c hc, ra_ui_1 c hc, ra_ui_1 c hc, ra_ui_1 c hc, ra_ui_1 c hc, ra_ui_1 c hc, ra_ui_1 c hc]
  have T : rz_Tc (fun i => (σ.1 87 i).toInt.toNat) N 0 τ0 := by
    refine ⟨by rw [h0]; rfl, by omega, by rw [h0]; rfl, Nat.zero_le _, fun i hi => ?_, fun i hi => ?_⟩
    · obtain ⟨b1, b2⟩ := t4 i (by omega)
      obtain ⟨b3, b4⟩ := rz_byt1 b2
      rw [c0 3 (by decide) (by decide) (by decide) (by decide) (by decide) (by decide), b1]
      exact ⟨b3, b4⟩
    · rw [c0 4 (by decide) (by decide) (by decide) (by decide) (by decide) (by decide)]; exact t7 i hi
  have M : rz_Tm (fun i => (σ.1 87 i).toInt.toNat) N 0 ψ0 := by
    refine ⟨by rw [g0]; rfl, by omega, by rw [g0]; rfl, Nat.zero_le _, fun i hi => ?_, fun i hi => ?_⟩
    · obtain ⟨b1, b2⟩ := t4 i (by omega)
      obtain ⟨b3, b4⟩ := rz_byt1 b2
      rw [m0 87 (by decide), hψ 87 (by decide)]
      exact ⟨b3, b4⟩
    · rw [m0 88 (by decide), hψ 88 (by decide)]; exact t8 i hi
  obtain ⟨k, pl, nx, hk, q1, q2, q3, q4⟩ := rz_tk_ex (fun i => (σ.1 87 i).toInt.toNat) (Nat.zero_le N)
  obtain ⟨τ, e1, a1, a2, a3, a4⟩ := rz_c_step T hk
  obtain ⟨φ, e2, b1, b2, b3, b4⟩ := rz_m_step M hk
  refine ⟨_, nx, k, τ, φ, ?_, ?_, ⟨a1, b1, a3, b3, a4.trans b4.symm, ?_, ?_⟩, ⟨0, 0, 0, 0, ?_⟩, ?_, ?_, ?_, ?_⟩
  · rw [e_24, e_25, e_57, ra_kV, rz_open (tc := tc') (by rw [← t1]; rfl) htc hN, ← h0, e1, ra_kV, ra_kV]
    rfl
  · rw [e_170, if_neg (nI_pos (by omega)), hψ 86 (Nat.le_refl _), t2, rz_inl (by omega) hN, e_155, ra_kV, ← g0, e2, ra_kV]
    rfl
  · rw [a2.1 1 (by decide), b2.2.1 4 (by omega), h0, g0]; rfl
  · rw [a2.1 1 (by decide), b2.2.1 5 (by omega), h0, g0]; rfl
  · simp only [a2.1 29 (by decide), a2.1 30 (by decide), a2.1 31 (by decide), a2.1 32 (by decide), a2.1 33 (by decide), a2.1 34 (by decide), a2.1 35 (by decide), a2.1 36 (by decide), a2.1 37 (by decide), a2.1 38 (by decide), a2.1 39 (by decide), a2.1 40 (by decide), a2.1 41 (by decide), a2.1 42 (by decide), a2.1 43 (by decide), a2.1 44 (by decide), a2.1 45 (by decide), a2.1 46 (by decide), a2.1 47 (by decide), a2.1 5 (by decide), a2.1 6 (by decide), a2.1 7 (by decide), a2.1 8 (by decide), a2.1 9 (by decide), b2.2.1 18 (by omega), b2.2.1 19 (by omega), b2.2.1 20 (by omega), b2.2.1 21 (by omega), b2.2.1 22 (by omega), b2.2.1 23 (by omega), b2.2.1 24 (by omega)]
    have z44 : τ0.1 44 0 = 0 := by rw [c0 44 (by decide) (by decide) (by decide) (by decide) (by decide) (by decide)]; exact s44
    refine ⟨⟨by rw [h0, g0]; rfl, by rw [h0, g0]; rfl, by rw [h0, g0]; rfl, Or.inl (by rw [g0]; rfl)⟩, ⟨by rw [h0]; rfl, by rw [g0]; rfl, by omega, fun _ => 0, fun k hk => by omega, fun j hj => ?_, Nat.zero_le _⟩, ⟨by rw [h0]; rfl, by rw [g0]; rfl, by omega, fun l hl => by omega⟩, ⟨by rw [h0]; rfl, by rw [g0]; rfl, by omega, fun p hp => by omega⟩, ⟨by rw [h0]; rfl, by rw [g0]; rfl, by omega, fun w hw => by omega⟩, ⟨[], by rw [h0]; rfl, Nat.zero_le _, fun i x hx => (by cases hx), List.Pairwise.nil, fun p hp => by omega⟩⟩
    have : j = 0 := by omega
    subst this
    exact z44
  · unfold rz_ms
    by_cases z : k.1 = 0
    · rw [if_pos z]; omega
    · rw [if_neg z]; have := q4 z; omega
  · rw [a2.1 1 (by decide), h0]; rfl
  · refine ⟨fun c hc => ?_, ?_, ?_, ?_⟩
    · rw [a2.1 c (by omega), c0 c (by omega) (by omega) (by omega) (by omega) (by omega) (by omega)]
    · rw [a2.2.1 2 (by omega), h0]; rfl
    · rw [a2.1 44 (by decide), c0 44 (by decide) (by decide) (by decide) (by decide) (by decide) (by decide)]
    · rw [a2.2.2, h0]; rfl
  · refine ⟨fun c hc => ?_, fun k hk => ?_, ?_, ?_, ?_⟩
    · rw [b2.1 c (by omega), m0 c (by omega)]
    · rw [b2.2.1 k (by omega), g0]
      simp only [ra_ui_get]
      rw [if_neg (fun q => by omega), if_neg (fun q => by omega), if_neg (fun q => by omega), if_neg (fun q => by omega), if_neg (fun q => by omega), if_neg (fun q => by omega), if_neg (fun q => by omega), if_neg (fun q => by omega), if_neg (fun q => by omega), if_neg (fun q => by omega), if_neg (fun q => by omega), if_neg (fun q => by omega), if_neg (fun q => by omega)]
    · rw [b2.2.1 1 (by omega), g0]; rfl
    · rw [b2.1 89 (by decide), b2.1 90 (by decide), b2.1 91 (by decide), b2.1 92 (by decide), b2.1 93 (by decide), b2.1 94 (by decide), b2.1 95 (by decide), b2.1 96 (by decide), m0 89 (by decide), m0 90 (by decide), m0 91 (by decide), m0 92 (by decide), m0 93 (by decide), m0 94 (by decide), m0 95 (by decide), m0 96 (by decide)]
      exact ⟨fun _ _ => rfl, fun _ _ => rfl, fun _ _ => rfl, fun _ _ => rfl, fun _ _ => rfl, fun _ _ => rfl, fun _ _ => rfl, fun _ _ => rfl⟩
    · rw [b2.2.2, g0]; rfl
