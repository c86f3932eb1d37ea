-- ===== the relation, when a part of it changes; written by wip/whole/gen16.py =====
def rz_PN (c k : Nat) : Bool := (Nat.beq c 56 && (Nat.beq k 0 || Nat.beq k 1)) || (Nat.ble 57 c && Nat.ble c 60) || (Nat.beq c 86 && (Nat.beq k 47 || Nat.beq k 48)) || (Nat.ble 106 c && Nat.ble c 108)
def rz_PS (c k : Nat) : Bool := (Nat.beq c 48 && (Nat.beq k 3 || Nat.beq k 4)) || (Nat.ble 49 c && Nat.ble c 55) || (Nat.beq c 86 && Nat.beq k 43) || Nat.beq c 93 || Nat.beq c 101 || Nat.beq c 103
def rz_PT (c k : Nat) : Bool := (Nat.beq c 2 && Nat.beq k 2) || Nat.beq c 3 || (Nat.beq c 86 && Nat.beq k 1) || Nat.beq c 87
set_option maxHeartbeats 2000000 in
theorem rz_R_notes {σ τ : ra_S} (h : ∀ c k, rz_P c k = true → rz_PN c k = false → τ.1 c k = σ.1 c k) (hn : ∀ np nb nl nw nn, rz_counts np nb nl nw σ → rz_notes np nb nn σ → ∃ nn', rz_notes np nb nn' τ) (hR : rz_R σ) : rz_R τ := by
  obtain ⟨np, nb, nl, nw, ku, tp, nn, tc, h1, h2, h3, h4, h5, h6, h7, h8, h9, h10⟩ := hR
  have e1 := h 1 2 rfl rfl
  have e2 := h 1 3 rfl rfl
  have e3 := h 2 2 rfl rfl
  have e4 : ∀ k, τ.1 3 k = σ.1 3 k := fun k => h 3 k rfl rfl
  have e5 : ∀ k, τ.1 4 k = σ.1 4 k := fun k => h 4 k rfl rfl
  have e6 : ∀ k, τ.1 10 k = σ.1 10 k := fun k => h 10 k rfl rfl
  have e7 : ∀ k, τ.1 11 k = σ.1 11 k := fun k => h 11 k rfl rfl
  have e8 : ∀ k, τ.1 12 k = σ.1 12 k := fun k => h 12 k rfl rfl
  have e9 : ∀ k, τ.1 13 k = σ.1 13 k := fun k => h 13 k rfl rfl
  have e10 : ∀ k, τ.1 14 k = σ.1 14 k := fun k => h 14 k rfl rfl
  have e11 : ∀ k, τ.1 15 k = σ.1 15 k := fun k => h 15 k rfl rfl
  have e12 : ∀ k, τ.1 16 k = σ.1 16 k := fun k => h 16 k rfl rfl
  have e13 : ∀ k, τ.1 17 k = σ.1 17 k := fun k => h 17 k rfl rfl
  have e14 : ∀ k, τ.1 18 k = σ.1 18 k := fun k => h 18 k rfl rfl
  have e15 : ∀ k, τ.1 21 k = σ.1 21 k := fun k => h 21 k rfl rfl
  have e16 : ∀ k, τ.1 22 k = σ.1 22 k := fun k => h 22 k rfl rfl
  have e17 : ∀ k, τ.1 23 k = σ.1 23 k := fun k => h 23 k rfl rfl
  have e18 : ∀ k, τ.1 24 k = σ.1 24 k := fun k => h 24 k rfl rfl
  have e19 : ∀ k, τ.1 25 k = σ.1 25 k := fun k => h 25 k rfl rfl
  have e20 : ∀ k, τ.1 26 k = σ.1 26 k := fun k => h 26 k rfl rfl
  have e21 : ∀ k, τ.1 27 k = σ.1 27 k := fun k => h 27 k rfl rfl
  have e22 : ∀ k, τ.1 28 k = σ.1 28 k := fun k => h 28 k rfl rfl
  have e23 := h 48 3 rfl rfl
  have e24 := h 48 4 rfl rfl
  have e25 : ∀ k, τ.1 49 k = σ.1 49 k := fun k => h 49 k rfl rfl
  have e26 : ∀ k, τ.1 50 k = σ.1 50 k := fun k => h 50 k rfl rfl
  have e27 : ∀ k, τ.1 51 k = σ.1 51 k := fun k => h 51 k rfl rfl
  have e28 : ∀ k, τ.1 52 k = σ.1 52 k := fun k => h 52 k rfl rfl
  have e29 : ∀ k, τ.1 53 k = σ.1 53 k := fun k => h 53 k rfl rfl
  have e30 : ∀ k, τ.1 54 k = σ.1 54 k := fun k => h 54 k rfl rfl
  have e31 : ∀ k, τ.1 55 k = σ.1 55 k := fun k => h 55 k rfl rfl
  have e38 : ∀ k, τ.1 75 k = σ.1 75 k := fun k => h 75 k rfl rfl
  have e39 := h 44 0 rfl rfl
  have f1 := h 86 1 rfl rfl
  have f2 := h 86 4 rfl rfl
  have f3 := h 86 5 rfl rfl
  have f4 := h 86 12 rfl rfl
  have f5 := h 86 13 rfl rfl
  have f6 := h 86 14 rfl rfl
  have f7 := h 86 15 rfl rfl
  have f8 := h 86 16 rfl rfl
  have f9 := h 86 17 rfl rfl
  have f10 := h 86 39 rfl rfl
  have f11 := h 86 40 rfl rfl
  have f12 := h 86 41 rfl rfl
  have f13 := h 86 43 rfl rfl
  have g1 : ∀ k, τ.1 87 k = σ.1 87 k := fun k => h 87 k rfl rfl
  have g2 : ∀ k, τ.1 88 k = σ.1 88 k := fun k => h 88 k rfl rfl
  have g3 : ∀ k, τ.1 89 k = σ.1 89 k := fun k => h 89 k rfl rfl
  have g4 : ∀ k, τ.1 90 k = σ.1 90 k := fun k => h 90 k rfl rfl
  have g5 : ∀ k, τ.1 91 k = σ.1 91 k := fun k => h 91 k rfl rfl
  have g6 : ∀ k, τ.1 92 k = σ.1 92 k := fun k => h 92 k rfl rfl
  have g7 : ∀ k, τ.1 93 k = σ.1 93 k := fun k => h 93 k rfl rfl
  have g8 : ∀ k, τ.1 94 k = σ.1 94 k := fun k => h 94 k rfl rfl
  have g9 : ∀ k, τ.1 95 k = σ.1 95 k := fun k => h 95 k rfl rfl
  have g10 : ∀ k, τ.1 96 k = σ.1 96 k := fun k => h 96 k rfl rfl
  have g11 : ∀ k, τ.1 101 k = σ.1 101 k := fun k => h 101 k rfl rfl
  have g12 : ∀ k, τ.1 103 k = σ.1 103 k := fun k => h 103 k rfl rfl
  obtain ⟨nn', h8⟩ := hn np nb nl nw nn h1 h8
  refine ⟨np, nb, nl, nw, ku, tp, nn', tc, ?_, ?_, ?_, ?_, ?_, ?_, ?_, ?_, ?_, ?_⟩
  · unfold rz_counts at h1 ⊢
    simp only [e1, e2, e3, e4, e5, e6, e7, e8, e9, e10, e11, e12, e13, e14, e15, e16, e17, e18, e19, e20, e21, e22, e23, e24, e25, e26, e27, e28, e29, e30, e31, e38, e39, f1, f2, f3, f4, f5, f6, f7, f8, f9, f10, f11, f12, f13, g1, g2, g3, g4, g5, g6, g7, g8, g9, g10, g11, g12]
    exact h1
  · unfold rz_laws at h2 ⊢
    simp only [e1, e2, e3, e4, e5, e6, e7, e8, e9, e10, e11, e12, e13, e14, e15, e16, e17, e18, e19, e20, e21, e22, e23, e24, e25, e26, e27, e28, e29, e30, e31, e38, e39, f1, f2, f3, f4, f5, f6, f7, f8, f9, f10, f11, f12, f13, g1, g2, g3, g4, g5, g6, g7, g8, g9, g10, g11, g12]
    exact h2
  · unfold rz_players at h3 ⊢
    simp only [e1, e2, e3, e4, e5, e6, e7, e8, e9, e10, e11, e12, e13, e14, e15, e16, e17, e18, e19, e20, e21, e22, e23, e24, e25, e26, e27, e28, e29, e30, e31, e38, e39, f1, f2, f3, f4, f5, f6, f7, f8, f9, f10, f11, f12, f13, g1, g2, g3, g4, g5, g6, g7, g8, g9, g10, g11, g12]
    exact h3
  · unfold rz_beats at h4 ⊢
    simp only [e1, e2, e3, e4, e5, e6, e7, e8, e9, e10, e11, e12, e13, e14, e15, e16, e17, e18, e19, e20, e21, e22, e23, e24, e25, e26, e27, e28, e29, e30, e31, e38, e39, f1, f2, f3, f4, f5, f6, f7, f8, f9, f10, f11, f12, f13, g1, g2, g3, g4, g5, g6, g7, g8, g9, g10, g11, g12]
    exact h4
  · unfold rz_wrongs at h5 ⊢
    simp only [e1, e2, e3, e4, e5, e6, e7, e8, e9, e10, e11, e12, e13, e14, e15, e16, e17, e18, e19, e20, e21, e22, e23, e24, e25, e26, e27, e28, e29, e30, e31, e38, e39, f1, f2, f3, f4, f5, f6, f7, f8, f9, f10, f11, f12, f13, g1, g2, g3, g4, g5, g6, g7, g8, g9, g10, g11, g12]
    exact h5
  · unfold rz_stage at h6 ⊢
    simp only [e1, e2, e3, e4, e5, e6, e7, e8, e9, e10, e11, e12, e13, e14, e15, e16, e17, e18, e19, e20, e21, e22, e23, e24, e25, e26, e27, e28, e29, e30, e31, e38, e39, f1, f2, f3, f4, f5, f6, f7, f8, f9, f10, f11, f12, f13, g1, g2, g3, g4, g5, g6, g7, g8, g9, g10, g11, g12]
    exact h6
  · unfold rz_undo at h7 ⊢
    simp only [e1, e2, e3, e4, e5, e6, e7, e8, e9, e10, e11, e12, e13, e14, e15, e16, e17, e18, e19, e20, e21, e22, e23, e24, e25, e26, e27, e28, e29, e30, e31, e38, e39, f1, f2, f3, f4, f5, f6, f7, f8, f9, f10, f11, f12, f13, g1, g2, g3, g4, g5, g6, g7, g8, g9, g10, g11, g12]
    exact h7
  · exact h8
  · unfold rz_tape at h9 ⊢
    simp only [e1, e2, e3, e4, e5, e6, e7, e8, e9, e10, e11, e12, e13, e14, e15, e16, e17, e18, e19, e20, e21, e22, e23, e24, e25, e26, e27, e28, e29, e30, e31, e38, e39, f1, f2, f3, f4, f5, f6, f7, f8, f9, f10, f11, f12, f13, g1, g2, g3, g4, g5, g6, g7, g8, g9, g10, g11, g12]
    exact h9
  · unfold rz_still at h10 ⊢
    simp only [e1, e2, e3, e4, e5, e6, e7, e8, e9, e10, e11, e12, e13, e14, e15, e16, e17, e18, e19, e20, e21, e22, e23, e24, e25, e26, e27, e28, e29, e30, e31, e38, e39, f1, f2, f3, f4, f5, f6, f7, f8, f9, f10, f11, f12, f13, g1, g2, g3, g4, g5, g6, g7, g8, g9, g10, g11, g12]
    exact h10

set_option maxHeartbeats 2000000 in
theorem rz_R_stage {σ τ : ra_S} (h : ∀ c k, rz_P c k = true → rz_PS c k = false → τ.1 c k = σ.1 c k) (hn : ∀ np nb nl nw ku tp, rz_counts np nb nl nw σ → rz_players np nl σ → rz_stage np σ → rz_undo np ku tp σ → ∃ ku' tp', rz_players np nl τ ∧ rz_stage np τ ∧ rz_undo np ku' tp' τ) (hR : rz_R σ) : rz_R τ := by
  obtain ⟨np, nb, nl, nw, ku, tp, nn, tc, h1, h2, h3, h4, h5, h6, h7, h8, h9, h10⟩ := hR
  have e1 := h 1 2 rfl rfl
  have e2 := h 1 3 rfl rfl
  have e3 := h 2 2 rfl rfl
  have e4 : ∀ k, τ.1 3 k = σ.1 3 k := fun k => h 3 k rfl rfl
  have e5 : ∀ k, τ.1 4 k = σ.1 4 k := fun k => h 4 k rfl rfl
  have e6 : ∀ k, τ.1 10 k = σ.1 10 k := fun k => h 10 k rfl rfl
  have e7 : ∀ k, τ.1 11 k = σ.1 11 k := fun k => h 11 k rfl rfl
  have e8 : ∀ k, τ.1 12 k = σ.1 12 k := fun k => h 12 k rfl rfl
  have e9 : ∀ k, τ.1 13 k = σ.1 13 k := fun k => h 13 k rfl rfl
  have e10 : ∀ k, τ.1 14 k = σ.1 14 k := fun k => h 14 k rfl rfl
  have e11 : ∀ k, τ.1 15 k = σ.1 15 k := fun k => h 15 k rfl rfl
  have e12 : ∀ k, τ.1 16 k = σ.1 16 k := fun k => h 16 k rfl rfl
  have e13 : ∀ k, τ.1 17 k = σ.1 17 k := fun k => h 17 k rfl rfl
  have e14 : ∀ k, τ.1 18 k = σ.1 18 k := fun k => h 18 k rfl rfl
  have e15 : ∀ k, τ.1 21 k = σ.1 21 k := fun k => h 21 k rfl rfl
  have e16 : ∀ k, τ.1 22 k = σ.1 22 k := fun k => h 22 k rfl rfl
  have e17 : ∀ k, τ.1 23 k = σ.1 23 k := fun k => h 23 k rfl rfl
  have e18 : ∀ k, τ.1 24 k = σ.1 24 k := fun k => h 24 k rfl rfl
  have e19 : ∀ k, τ.1 25 k = σ.1 25 k := fun k => h 25 k rfl rfl
  have e20 : ∀ k, τ.1 26 k = σ.1 26 k := fun k => h 26 k rfl rfl
  have e21 : ∀ k, τ.1 27 k = σ.1 27 k := fun k => h 27 k rfl rfl
  have e22 : ∀ k, τ.1 28 k = σ.1 28 k := fun k => h 28 k rfl rfl
  have e32 := h 56 0 rfl rfl
  have e33 := h 56 1 rfl rfl
  have e34 : ∀ k, τ.1 57 k = σ.1 57 k := fun k => h 57 k rfl rfl
  have e35 : ∀ k, τ.1 58 k = σ.1 58 k := fun k => h 58 k rfl rfl
  have e36 : ∀ k, τ.1 59 k = σ.1 59 k := fun k => h 59 k rfl rfl
  have e37 : ∀ k, τ.1 60 k = σ.1 60 k := fun k => h 60 k rfl rfl
  have e38 : ∀ k, τ.1 75 k = σ.1 75 k := fun k => h 75 k rfl rfl
  have e39 := h 44 0 rfl rfl
  have f1 := h 86 1 rfl rfl
  have f2 := h 86 4 rfl rfl
  have f3 := h 86 5 rfl rfl
  have f4 := h 86 12 rfl rfl
  have f5 := h 86 13 rfl rfl
  have f6 := h 86 14 rfl rfl
  have f7 := h 86 15 rfl rfl
  have f8 := h 86 16 rfl rfl
  have f9 := h 86 17 rfl rfl
  have f10 := h 86 39 rfl rfl
  have f11 := h 86 40 rfl rfl
  have f12 := h 86 41 rfl rfl
  have f14 := h 86 47 rfl rfl
  have f15 := h 86 48 rfl rfl
  have g1 : ∀ k, τ.1 87 k = σ.1 87 k := fun k => h 87 k rfl rfl
  have g2 : ∀ k, τ.1 88 k = σ.1 88 k := fun k => h 88 k rfl rfl
  have g3 : ∀ k, τ.1 89 k = σ.1 89 k := fun k => h 89 k rfl rfl
  have g4 : ∀ k, τ.1 90 k = σ.1 90 k := fun k => h 90 k rfl rfl
  have g5 : ∀ k, τ.1 91 k = σ.1 91 k := fun k => h 91 k rfl rfl
  have g6 : ∀ k, τ.1 92 k = σ.1 92 k := fun k => h 92 k rfl rfl
  have g8 : ∀ k, τ.1 94 k = σ.1 94 k := fun k => h 94 k rfl rfl
  have g9 : ∀ k, τ.1 95 k = σ.1 95 k := fun k => h 95 k rfl rfl
  have g10 : ∀ k, τ.1 96 k = σ.1 96 k := fun k => h 96 k rfl rfl
  have g13 : ∀ k, τ.1 106 k = σ.1 106 k := fun k => h 106 k rfl rfl
  have g14 : ∀ k, τ.1 107 k = σ.1 107 k := fun k => h 107 k rfl rfl
  have g15 : ∀ k, τ.1 108 k = σ.1 108 k := fun k => h 108 k rfl rfl
  obtain ⟨ku', tp', h3, h6, h7⟩ := hn np nb nl nw ku tp h1 h3 h6 h7
  refine ⟨np, nb, nl, nw, ku', tp', nn, tc, ?_, ?_, ?_, ?_, ?_, ?_, ?_, ?_, ?_, ?_⟩
  · unfold rz_counts at h1 ⊢
    simp only [e1, e2, e3, e4, e5, e6, e7, e8, e9, e10, e11, e12, e13, e14, e15, e16, e17, e18, e19, e20, e21, e22, e32, e33, e34, e35, e36, e37, e38, e39, f1, f2, f3, f4, f5, f6, f7, f8, f9, f10, f11, f12, f14, f15, g1, g2, g3, g4, g5, g6, g8, g9, g10, g13, g14, g15]
    exact h1
  · unfold rz_laws at h2 ⊢
    simp only [e1, e2, e3, e4, e5, e6, e7, e8, e9, e10, e11, e12, e13, e14, e15, e16, e17, e18, e19, e20, e21, e22, e32, e33, e34, e35, e36, e37, e38, e39, f1, f2, f3, f4, f5, f6, f7, f8, f9, f10, f11, f12, f14, f15, g1, g2, g3, g4, g5, g6, g8, g9, g10, g13, g14, g15]
    exact h2
  · exact h3
  · unfold rz_beats at h4 ⊢
    simp only [e1, e2, e3, e4, e5, e6, e7, e8, e9, e10, e11, e12, e13, e14, e15, e16, e17, e18, e19, e20, e21, e22, e32, e33, e34, e35, e36, e37, e38, e39, f1, f2, f3, f4, f5, f6, f7, f8, f9, f10, f11, f12, f14, f15, g1, g2, g3, g4, g5, g6, g8, g9, g10, g13, g14, g15]
    exact h4
  · unfold rz_wrongs at h5 ⊢
    simp only [e1, e2, e3, e4, e5, e6, e7, e8, e9, e10, e11, e12, e13, e14, e15, e16, e17, e18, e19, e20, e21, e22, e32, e33, e34, e35, e36, e37, e38, e39, f1, f2, f3, f4, f5, f6, f7, f8, f9, f10, f11, f12, f14, f15, g1, g2, g3, g4, g5, g6, g8, g9, g10, g13, g14, g15]
    exact h5
  · exact h6
  · exact h7
  · unfold rz_notes at h8 ⊢
    simp only [e1, e2, e3, e4, e5, e6, e7, e8, e9, e10, e11, e12, e13, e14, e15, e16, e17, e18, e19, e20, e21, e22, e32, e33, e34, e35, e36, e37, e38, e39, f1, f2, f3, f4, f5, f6, f7, f8, f9, f10, f11, f12, f14, f15, g1, g2, g3, g4, g5, g6, g8, g9, g10, g13, g14, g15]
    exact h8
  · unfold rz_tape at h9 ⊢
    simp only [e1, e2, e3, e4, e5, e6, e7, e8, e9, e10, e11, e12, e13, e14, e15, e16, e17, e18, e19, e20, e21, e22, e32, e33, e34, e35, e36, e37, e38, e39, f1, f2, f3, f4, f5, f6, f7, f8, f9, f10, f11, f12, f14, f15, g1, g2, g3, g4, g5, g6, g8, g9, g10, g13, g14, g15]
    exact h9
  · unfold rz_still at h10 ⊢
    simp only [e1, e2, e3, e4, e5, e6, e7, e8, e9, e10, e11, e12, e13, e14, e15, e16, e17, e18, e19, e20, e21, e22, e32, e33, e34, e35, e36, e37, e38, e39, f1, f2, f3, f4, f5, f6, f7, f8, f9, f10, f11, f12, f14, f15, g1, g2, g3, g4, g5, g6, g8, g9, g10, g13, g14, g15]
    exact h10

set_option maxHeartbeats 2000000 in
theorem rz_R_tape {σ τ : ra_S} (h : ∀ c k, rz_P c k = true → rz_PT c k = false → τ.1 c k = σ.1 c k) (hn : ∀ tc, rz_tape tc σ → ∃ tc', rz_tape tc' τ) (hR : rz_R σ) : rz_R τ := by
  obtain ⟨np, nb, nl, nw, ku, tp, nn, tc, h1, h2, h3, h4, h5, h6, h7, h8, h9, h10⟩ := hR
  have e1 := h 1 2 rfl rfl
  have e2 := h 1 3 rfl rfl
  have e5 : ∀ k, τ.1 4 k = σ.1 4 k := fun k => h 4 k rfl rfl
  have e6 : ∀ k, τ.1 10 k = σ.1 10 k := fun k => h 10 k rfl rfl
  have e7 : ∀ k, τ.1 11 k = σ.1 11 k := fun k => h 11 k rfl rfl
  have e8 : ∀ k, τ.1 12 k = σ.1 12 k := fun k => h 12 k rfl rfl
  have e9 : ∀ k, τ.1 13 k = σ.1 13 k := fun k => h 13 k rfl rfl
  have e10 : ∀ k, τ.1 14 k = σ.1 14 k := fun k => h 14 k rfl rfl
  have e11 : ∀ k, τ.1 15 k = σ.1 15 k := fun k => h 15 k rfl rfl
  have e12 : ∀ k, τ.1 16 k = σ.1 16 k := fun k => h 16 k rfl rfl
  have e13 : ∀ k, τ.1 17 k = σ.1 17 k := fun k => h 17 k rfl rfl
  have e14 : ∀ k, τ.1 18 k = σ.1 18 k := fun k => h 18 k rfl rfl
  have e15 : ∀ k, τ.1 21 k = σ.1 21 k := fun k => h 21 k rfl rfl
  have e16 : ∀ k, τ.1 22 k = σ.1 22 k := fun k => h 22 k rfl rfl
  have e17 : ∀ k, τ.1 23 k = σ.1 23 k := fun k => h 23 k rfl rfl
  have e18 : ∀ k, τ.1 24 k = σ.1 24 k := fun k => h 24 k rfl rfl
  have e19 : ∀ k, τ.1 25 k = σ.1 25 k := fun k => h 25 k rfl rfl
  have e20 : ∀ k, τ.1 26 k = σ.1 26 k := fun k => h 26 k rfl rfl
  have e21 : ∀ k, τ.1 27 k = σ.1 27 k := fun k => h 27 k rfl rfl
  have e22 : ∀ k, τ.1 28 k = σ.1 28 k := fun k => h 28 k rfl rfl
  have e23 := h 48 3 rfl rfl
  have e24 := h 48 4 rfl rfl
  have e25 : ∀ k, τ.1 49 k = σ.1 49 k := fun k => h 49 k rfl rfl
  have e26 : ∀ k, τ.1 50 k = σ.1 50 k := fun k => h 50 k rfl rfl
  have e27 : ∀ k, τ.1 51 k = σ.1 51 k := fun k => h 51 k rfl rfl
  have e28 : ∀ k, τ.1 52 k = σ.1 52 k := fun k => h 52 k rfl rfl
  have e29 : ∀ k, τ.1 53 k = σ.1 53 k := fun k => h 53 k rfl rfl
  have e30 : ∀ k, τ.1 54 k = σ.1 54 k := fun k => h 54 k rfl rfl
  have e31 : ∀ k, τ.1 55 k = σ.1 55 k := fun k => h 55 k rfl rfl
  have e32 := h 56 0 rfl rfl
  have e33 := h 56 1 rfl rfl
  have e34 : ∀ k, τ.1 57 k = σ.1 57 k := fun k => h 57 k rfl rfl
  have e35 : ∀ k, τ.1 58 k = σ.1 58 k := fun k => h 58 k rfl rfl
  have e36 : ∀ k, τ.1 59 k = σ.1 59 k := fun k => h 59 k rfl rfl
  have e37 : ∀ k, τ.1 60 k = σ.1 60 k := fun k => h 60 k rfl rfl
  have e38 : ∀ k, τ.1 75 k = σ.1 75 k := fun k => h 75 k rfl rfl
  have e39 := h 44 0 rfl rfl
  have f2 := h 86 4 rfl rfl
  have f3 := h 86 5 rfl rfl
  have f4 := h 86 12 rfl rfl
  have f5 := h 86 13 rfl rfl
  have f6 := h 86 14 rfl rfl
  have f7 := h 86 15 rfl rfl
  have f8 := h 86 16 rfl rfl
  have f9 := h 86 17 rfl rfl
  have f10 := h 86 39 rfl rfl
  have f11 := h 86 40 rfl rfl
  have f12 := h 86 41 rfl rfl
  have f13 := h 86 43 rfl rfl
  have f14 := h 86 47 rfl rfl
  have f15 := h 86 48 rfl rfl
  have g2 : ∀ k, τ.1 88 k = σ.1 88 k := fun k => h 88 k rfl rfl
  have g3 : ∀ k, τ.1 89 k = σ.1 89 k := fun k => h 89 k rfl rfl
  have g4 : ∀ k, τ.1 90 k = σ.1 90 k := fun k => h 90 k rfl rfl
  have g5 : ∀ k, τ.1 91 k = σ.1 91 k := fun k => h 91 k rfl rfl
  have g6 : ∀ k, τ.1 92 k = σ.1 92 k := fun k => h 92 k rfl rfl
  have g7 : ∀ k, τ.1 93 k = σ.1 93 k := fun k => h 93 k rfl rfl
  have g8 : ∀ k, τ.1 94 k = σ.1 94 k := fun k => h 94 k rfl rfl
  have g9 : ∀ k, τ.1 95 k = σ.1 95 k := fun k => h 95 k rfl rfl
  have g10 : ∀ k, τ.1 96 k = σ.1 96 k := fun k => h 96 k rfl rfl
  have g11 : ∀ k, τ.1 101 k = σ.1 101 k := fun k => h 101 k rfl rfl
  have g12 : ∀ k, τ.1 103 k = σ.1 103 k := fun k => h 103 k rfl rfl
  have g13 : ∀ k, τ.1 106 k = σ.1 106 k := fun k => h 106 k rfl rfl
  have g14 : ∀ k, τ.1 107 k = σ.1 107 k := fun k => h 107 k rfl rfl
  have g15 : ∀ k, τ.1 108 k = σ.1 108 k := fun k => h 108 k rfl rfl
  obtain ⟨tc', h9⟩ := hn tc h9
  refine ⟨np, nb, nl, nw, ku, tp, nn, tc', ?_, ?_, ?_, ?_, ?_, ?_, ?_, ?_, ?_, ?_⟩
  · unfold rz_counts at h1 ⊢
    simp only [e1, e2, e5, e6, e7, e8, e9, e10, e11, e12, e13, e14, e15, e16, e17, e18, e19, e20, e21, e22, e23, e24, e25, e26, e27, e28, e29, e30, e31, e32, e33, e34, e35, e36, e37, e38, e39, f2, f3, f4, f5, f6, f7, f8, f9, f10, f11, f12, f13, f14, f15, g2, g3, g4, g5, g6, g7, g8, g9, g10, g11, g12, g13, g14, g15]
    exact h1
  · unfold rz_laws at h2 ⊢
    simp only [e1, e2, e5, e6, e7, e8, e9, e10, e11, e12, e13, e14, e15, e16, e17, e18, e19, e20, e21, e22, e23, e24, e25, e26, e27, e28, e29, e30, e31, e32, e33, e34, e35, e36, e37, e38, e39, f2, f3, f4, f5, f6, f7, f8, f9, f10, f11, f12, f13, f14, f15, g2, g3, g4, g5, g6, g7, g8, g9, g10, g11, g12, g13, g14, g15]
    exact h2
  · unfold rz_players at h3 ⊢
    simp only [e1, e2, e5, e6, e7, e8, e9, e10, e11, e12, e13, e14, e15, e16, e17, e18, e19, e20, e21, e22, e23, e24, e25, e26, e27, e28, e29, e30, e31, e32, e33, e34, e35, e36, e37, e38, e39, f2, f3, f4, f5, f6, f7, f8, f9, f10, f11, f12, f13, f14, f15, g2, g3, g4, g5, g6, g7, g8, g9, g10, g11, g12, g13, g14, g15]
    exact h3
  · unfold rz_beats at h4 ⊢
    simp only [e1, e2, e5, e6, e7, e8, e9, e10, e11, e12, e13, e14, e15, e16, e17, e18, e19, e20, e21, e22, e23, e24, e25, e26, e27, e28, e29, e30, e31, e32, e33, e34, e35, e36, e37, e38, e39, f2, f3, f4, f5, f6, f7, f8, f9, f10, f11, f12, f13, f14, f15, g2, g3, g4, g5, g6, g7, g8, g9, g10, g11, g12, g13, g14, g15]
    exact h4
  · unfold rz_wrongs at h5 ⊢
    simp only [e1, e2, e5, e6, e7, e8, e9, e10, e11, e12, e13, e14, e15, e16, e17, e18, e19, e20, e21, e22, e23, e24, e25, e26, e27, e28, e29, e30, e31, e32, e33, e34, e35, e36, e37, e38, e39, f2, f3, f4, f5, f6, f7, f8, f9, f10, f11, f12, f13, f14, f15, g2, g3, g4, g5, g6, g7, g8, g9, g10, g11, g12, g13, g14, g15]
    exact h5
  · unfold rz_stage at h6 ⊢
    simp only [e1, e2, e5, e6, e7, e8, e9, e10, e11, e12, e13, e14, e15, e16, e17, e18, e19, e20, e21, e22, e23, e24, e25, e26, e27, e28, e29, e30, e31, e32, e33, e34, e35, e36, e37, e38, e39, f2, f3, f4, f5, f6, f7, f8, f9, f10, f11, f12, f13, f14, f15, g2, g3, g4, g5, g6, g7, g8, g9, g10, g11, g12, g13, g14, g15]
    exact h6
  · unfold rz_undo at h7 ⊢
    simp only [e1, e2, e5, e6, e7, e8, e9, e10, e11, e12, e13, e14, e15, e16, e17, e18, e19, e20, e21, e22, e23, e24, e25, e26, e27, e28, e29, e30, e31, e32, e33, e34, e35, e36, e37, e38, e39, f2, f3, f4, f5, f6, f7, f8, f9, f10, f11, f12, f13, f14, f15, g2, g3, g4, g5, g6, g7, g8, g9, g10, g11, g12, g13, g14, g15]
    exact h7
  · unfold rz_notes at h8 ⊢
    simp only [e1, e2, e5, e6, e7, e8, e9, e10, e11, e12, e13, e14, e15, e16, e17, e18, e19, e20, e21, e22, e23, e24, e25, e26, e27, e28, e29, e30, e31, e32, e33, e34, e35, e36, e37, e38, e39, f2, f3, f4, f5, f6, f7, f8, f9, f10, f11, f12, f13, f14, f15, g2, g3, g4, g5, g6, g7, g8, g9, g10, g11, g12, g13, g14, g15]
    exact h8
  · exact h9
  · unfold rz_still at h10 ⊢
    simp only [e1, e2, e5, e6, e7, e8, e9, e10, e11, e12, e13, e14, e15, e16, e17, e18, e19, e20, e21, e22, e23, e24, e25, e26, e27, e28, e29, e30, e31, e32, e33, e34, e35, e36, e37, e38, e39, f2, f3, f4, f5, f6, f7, f8, f9, f10, f11, f12, f13, f14, f15, g2, g3, g4, g5, g6, g7, g8, g9, g10, g11, g12, g13, g14, g15]
    exact h10

