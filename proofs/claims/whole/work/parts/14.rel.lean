-- ===== what class and reference have in common between two calls =====
def rz_sum (f : Nat → Nat) : Nat → Nat
  | 0 => 0
  | n + 1 => rz_sum f n + f n
/-- a number of a range -/
abbrev rz_in (x : Int32) (a b : Int) : Prop := a ≤ x.toInt ∧ x.toInt ≤ b
def rz_counts (np nb nl nw : Nat) (σ : ra_S) : Prop :=
  (σ.1 16 0 = nI np ∧ σ.1 86 14 = nI np ∧ np ≤ 8) ∧ (σ.1 10 5 = nI nb ∧ σ.1 86 12 = nI nb ∧ nb ≤ 40) ∧ (σ.1 11 0 = nI nl ∧ σ.1 86 13 = nI nl ∧ nl ≤ 6) ∧ (σ.1 10 7 = nI nw ∧ σ.1 86 15 = nI nw ∧ nw ≤ 6) ∧ σ.1 10 3 = σ.1 86 16 ∧ σ.1 10 4 = σ.1 86 17
def rz_laws (nl : Nat) (σ : ra_S) : Prop := ∀ l, l < nl → σ.1 12 l = σ.1 90 l ∧ (∀ w, w < 4 → σ.1 13 (4 * l + w) = σ.1 91 (6 * l + w) ∧ rz_in (σ.1 91 (6 * l + w)) 0 9) ∧ (σ.1 14 l = σ.1 91 (6 * l + 4) ∧ rz_in (σ.1 91 (6 * l + 4)) (-500) 500) ∧ σ.1 15 l = σ.1 91 (6 * l + 5) ∧ (σ.1 91 (6 * l + 5) = 0 ∨ σ.1 91 (6 * l + 5) = 1)
def rz_players (np nl : Nat) (σ : ra_S) : Prop := ∀ p, p < np → σ.1 17 p = σ.1 92 p ∧ (∃ l, l < nl ∧ σ.1 18 p = nI l ∧ σ.1 93 (5 * p) = nI l) ∧ (σ.1 21 p = σ.1 93 (5 * p + 3) ∧ rz_in (σ.1 93 (5 * p + 3)) 0 300) ∧ (σ.1 22 p = σ.1 93 (5 * p + 4) ∧ rz_in (σ.1 93 (5 * p + 4)) 0 99) ∧
  (∃ b, (b < 2 ^ np ∧ b.testBit p = false) ∧ σ.1 23 p = nI b ∧ σ.1 94 p = nI b) ∧ (∃ b, (b < 2 ^ np ∧ b.testBit p = false) ∧ σ.1 24 p = nI b ∧ σ.1 95 p = nI b)
def rz_beats (nb : Nat) (σ : ra_S) : Prop := ∃ len : Nat → Nat, (∀ k, k < nb → σ.1 89 k = nI (len k)) ∧ (∀ n, n ≤ nb → σ.1 25 n = nI (rz_sum len n)) ∧ rz_sum len nb ≤ 10000000
def rz_wrongs (np nw : Nat) (σ : ra_S) : Prop := ∀ w, w < nw → (∃ p, p < np ∧ σ.1 26 w = nI p ∧ σ.1 96 (3 * w) = nI p) ∧ (∃ n, n < 40 ∧ σ.1 27 w = nI n ∧ σ.1 96 (3 * w + 1) = nI n) ∧ σ.1 28 w = σ.1 96 (3 * w + 2) ∧ rz_in (σ.1 96 (3 * w + 2)) (-2000) 2000
def rz_stage (np : Nat) (σ : ra_S) : Prop := ∀ p, p < np → (σ.1 49 p = σ.1 93 (5 * p + 1) ∧ rz_in (σ.1 93 (5 * p + 1)) 0 30) ∧ (σ.1 50 p = σ.1 93 (5 * p + 2) ∧ rz_in (σ.1 93 (5 * p + 2)) 0 30) ∧ σ.1 51 p = σ.1 101 p ∧ rz_in (σ.1 101 p) 0 15
/-- what undo goes back to: U j, the stage with j changes taken back -/
def rz_undo (np ku tp : Nat) (σ : ra_S) : Prop := σ.1 48 3 = nI ku ∧ σ.1 86 43 = nI ku ∧ ku ≤ 20 ∧ σ.1 48 4 = nI tp ∧ tp < 20 ∧
  ∃ U : Nat → Nat → Int32 × Int32 × Int32, (∀ p, p < np → U 0 p = (σ.1 49 p, σ.1 50 p, σ.1 51 p)) ∧ ∀ j, j < ku → ∃ q, q < np ∧ σ.1 52 ((tp + 19 - j) % 20) = nI q ∧ σ.1 103 (4 * (ku - 1 - j)) = nI q ∧
    rz_in (σ.1 53 ((tp + 19 - j) % 20)) 0 30 ∧ rz_in (σ.1 54 ((tp + 19 - j) % 20)) 0 30 ∧ rz_in (σ.1 55 ((tp + 19 - j) % 20)) 0 15 ∧
    (∀ p, p < np → U (j + 1) p = if p = q then (σ.1 53 ((tp + 19 - j) % 20), σ.1 54 ((tp + 19 - j) % 20), σ.1 55 ((tp + 19 - j) % 20)) else U j p) ∧
    ((σ.1 103 (4 * (ku - 1 - j) + 1) = 0 ∧ σ.1 103 (4 * (ku - 1 - j) + 2) = σ.1 55 ((tp + 19 - j) % 20) ∧ (U j q).1 = σ.1 53 ((tp + 19 - j) % 20) ∧ (U j q).2.1 = σ.1 54 ((tp + 19 - j) % 20)) ∨
     (σ.1 103 (4 * (ku - 1 - j) + 1) = 1 ∧ σ.1 103 (4 * (ku - 1 - j) + 2) = σ.1 53 ((tp + 19 - j) % 20) ∧ σ.1 103 (4 * (ku - 1 - j) + 3) = σ.1 54 ((tp + 19 - j) % 20) ∧ (U j q).2.2 = σ.1 55 ((tp + 19 - j) % 20)))
def rz_notes (np nb nn : Nat) (σ : ra_S) : Prop := σ.1 56 0 = nI nn ∧ σ.1 86 47 = nI nn ∧ nn ≤ 40 ∧ σ.1 56 1 = σ.1 86 48 ∧ rz_in (σ.1 86 48) (-1) nn ∧ ∀ k, k < nn →
  ((∃ p n, p < np ∧ n < nb ∧ σ.1 57 k = nI p ∧ σ.1 106 k = nI p ∧ σ.1 58 k = nI n ∧ σ.1 107 k = nI n ∧ σ.1 59 k = σ.1 108 k ∧ rz_in (σ.1 108 k) (-1000000) 1000000 ∧ σ.1 60 k = -1) ∨
   (∃ j, j < k ∧ σ.1 57 k = -1 ∧ σ.1 106 k = -1 ∧ σ.1 60 k = nI j ∧ σ.1 107 k = nI j))
/-- the words of the language, as the class packs them -/
def rz_words : List Int32 := [658804064, 72404992, 680957536, 538627232, 404455424, 42108032, 549512370, 642960384, 273730144, 135861856, 791132384]
def rz_chars : List Int32 := [115, 116, 105, 99, 107, 32, 98, 101, 97, 116, 32, 112, 97, 117, 115, 101, 32, 108, 97, 119, 32, 112, 108, 97, 121, 101, 114, 32, 119, 114, 111, 110, 103, 32, 116, 105, 109, 101, 115, 32, 97, 104, 101, 97, 100, 32, 115, 101, 101, 115, 32, 104, 101, 97, 114, 115, 32, 100, 97, 114, 101, 115, 32]
def rz_tape (tc : Nat) (σ : ra_S) : Prop := σ.1 2 2 = nI tc ∧ σ.1 86 1 = nI tc ∧ tc ≤ 800 ∧ (∀ i, i < tc → σ.1 3 i = σ.1 87 i ∧ rz_in (σ.1 87 i) 0 255) ∧ σ.1 1 2 = σ.1 86 4 ∧ σ.1 1 3 = σ.1 86 5 ∧ (∀ i, i < 11 → σ.1 4 i = rz_words.getD i 0) ∧ ∀ i, i < 63 → σ.1 88 i = rz_chars.getD i 0
def rz_still (σ : ra_S) : Prop := σ.1 86 39 = -1 ∧ (σ.1 86 40 = -1 ∧ σ.1 44 0 = 0) ∧ σ.1 86 41 = -1 ∧ ∀ p, p < 8 → σ.1 75 p = 0
/-- the relation -/
def rz_R (σ : ra_S) : Prop := ∃ np nb nl nw ku tp nn tc : Nat, rz_counts np nb nl nw σ ∧ rz_laws nl σ ∧ rz_players np nl σ ∧ rz_beats nb σ ∧ rz_wrongs np nw σ ∧ rz_stage np σ ∧ rz_undo np ku tp σ ∧ rz_notes np nb nn σ ∧ rz_tape tc σ ∧ rz_still σ
/-- the places that the relation speaks of -/
def rz_P (c k : Nat) : Bool := (Nat.beq c 1 && (Nat.beq k 2 || Nat.beq k 3)) || (Nat.beq c 2 && Nat.beq k 2) || Nat.beq c 3 || Nat.beq c 4 || (Nat.ble 10 c && Nat.ble c 28) || (Nat.beq c 44 && Nat.beq k 0) || (Nat.beq c 48 && (Nat.beq k 3 || Nat.beq k 4)) || (Nat.ble 49 c && Nat.ble c 55) || (Nat.beq c 56 && (Nat.beq k 0 || Nat.beq k 1)) || (Nat.ble 57 c && Nat.ble c 60) || Nat.beq c 75 ||
  (Nat.beq c 86 && (Nat.beq k 1 || Nat.beq k 4 || Nat.beq k 5 || (Nat.ble 12 k && Nat.ble k 17) || (Nat.ble 39 k && Nat.ble k 41) || Nat.beq k 43 || Nat.beq k 47 || Nat.beq k 48)) || (Nat.ble 87 c && Nat.ble c 96) || Nat.beq c 101 || Nat.beq c 103 || (Nat.ble 106 c && Nat.ble c 108)
set_option maxHeartbeats 2000000 in
theorem rz_R_eq {σ τ : ra_S} (h : ∀ c k, rz_P c k = true → τ.1 c k = σ.1 c k) (hR : rz_R σ) : rz_R τ := by
  have e1 := h 1 2 rfl
  have e2 := h 1 3 rfl
  have e3 := h 2 2 rfl
  have e4 : ∀ k, τ.1 3 k = σ.1 3 k := fun k => h 3 k rfl
  have e5 : ∀ k, τ.1 4 k = σ.1 4 k := fun k => h 4 k rfl
  have e6 : ∀ k, τ.1 10 k = σ.1 10 k := fun k => h 10 k rfl
  have e7 : ∀ k, τ.1 11 k = σ.1 11 k := fun k => h 11 k rfl
  have e8 : ∀ k, τ.1 12 k = σ.1 12 k := fun k => h 12 k rfl
  have e9 : ∀ k, τ.1 13 k = σ.1 13 k := fun k => h 13 k rfl
  have e10 : ∀ k, τ.1 14 k = σ.1 14 k := fun k => h 14 k rfl
  have e11 : ∀ k, τ.1 15 k = σ.1 15 k := fun k => h 15 k rfl
  have e12 : ∀ k, τ.1 16 k = σ.1 16 k := fun k => h 16 k rfl
  have e13 : ∀ k, τ.1 17 k = σ.1 17 k := fun k => h 17 k rfl
  have e14 : ∀ k, τ.1 18 k = σ.1 18 k := fun k => h 18 k rfl
  have e15 : ∀ k, τ.1 21 k = σ.1 21 k := fun k => h 21 k rfl
  have e16 : ∀ k, τ.1 22 k = σ.1 22 k := fun k => h 22 k rfl
  have e17 : ∀ k, τ.1 23 k = σ.1 23 k := fun k => h 23 k rfl
  have e18 : ∀ k, τ.1 24 k = σ.1 24 k := fun k => h 24 k rfl
  have e19 : ∀ k, τ.1 25 k = σ.1 25 k := fun k => h 25 k rfl
  have e20 : ∀ k, τ.1 26 k = σ.1 26 k := fun k => h 26 k rfl
  have e21 : ∀ k, τ.1 27 k = σ.1 27 k := fun k => h 27 k rfl
  have e22 : ∀ k, τ.1 28 k = σ.1 28 k := fun k => h 28 k rfl
  have e23 := h 48 3 rfl
  have e24 := h 48 4 rfl
  have e25 : ∀ k, τ.1 49 k = σ.1 49 k := fun k => h 49 k rfl
  have e26 : ∀ k, τ.1 50 k = σ.1 50 k := fun k => h 50 k rfl
  have e27 : ∀ k, τ.1 51 k = σ.1 51 k := fun k => h 51 k rfl
  have e28 : ∀ k, τ.1 52 k = σ.1 52 k := fun k => h 52 k rfl
  have e29 : ∀ k, τ.1 53 k = σ.1 53 k := fun k => h 53 k rfl
  have e30 : ∀ k, τ.1 54 k = σ.1 54 k := fun k => h 54 k rfl
  have e31 : ∀ k, τ.1 55 k = σ.1 55 k := fun k => h 55 k rfl
  have e32 := h 56 0 rfl
  have e33 := h 56 1 rfl
  have e34 : ∀ k, τ.1 57 k = σ.1 57 k := fun k => h 57 k rfl
  have e35 : ∀ k, τ.1 58 k = σ.1 58 k := fun k => h 58 k rfl
  have e36 : ∀ k, τ.1 59 k = σ.1 59 k := fun k => h 59 k rfl
  have e37 : ∀ k, τ.1 60 k = σ.1 60 k := fun k => h 60 k rfl
  have e38 : ∀ k, τ.1 75 k = σ.1 75 k := fun k => h 75 k rfl
  have e39 := h 44 0 rfl
  have f1 := h 86 1 rfl
  have f2 := h 86 4 rfl
  have f3 := h 86 5 rfl
  have f4 := h 86 12 rfl
  have f5 := h 86 13 rfl
  have f6 := h 86 14 rfl
  have f7 := h 86 15 rfl
  have f8 := h 86 16 rfl
  have f9 := h 86 17 rfl
  have f10 := h 86 39 rfl
  have f11 := h 86 40 rfl
  have f12 := h 86 41 rfl
  have f13 := h 86 43 rfl
  have f14 := h 86 47 rfl
  have f15 := h 86 48 rfl
  have g1 : ∀ k, τ.1 87 k = σ.1 87 k := fun k => h 87 k rfl
  have g2 : ∀ k, τ.1 88 k = σ.1 88 k := fun k => h 88 k rfl
  have g3 : ∀ k, τ.1 89 k = σ.1 89 k := fun k => h 89 k rfl
  have g4 : ∀ k, τ.1 90 k = σ.1 90 k := fun k => h 90 k rfl
  have g5 : ∀ k, τ.1 91 k = σ.1 91 k := fun k => h 91 k rfl
  have g6 : ∀ k, τ.1 92 k = σ.1 92 k := fun k => h 92 k rfl
  have g7 : ∀ k, τ.1 93 k = σ.1 93 k := fun k => h 93 k rfl
  have g8 : ∀ k, τ.1 94 k = σ.1 94 k := fun k => h 94 k rfl
  have g9 : ∀ k, τ.1 95 k = σ.1 95 k := fun k => h 95 k rfl
  have g10 : ∀ k, τ.1 96 k = σ.1 96 k := fun k => h 96 k rfl
  have g11 : ∀ k, τ.1 101 k = σ.1 101 k := fun k => h 101 k rfl
  have g12 : ∀ k, τ.1 103 k = σ.1 103 k := fun k => h 103 k rfl
  have g13 : ∀ k, τ.1 106 k = σ.1 106 k := fun k => h 106 k rfl
  have g14 : ∀ k, τ.1 107 k = σ.1 107 k := fun k => h 107 k rfl
  have g15 : ∀ k, τ.1 108 k = σ.1 108 k := fun k => h 108 k rfl
  unfold rz_R rz_counts rz_laws rz_players rz_beats rz_wrongs rz_stage rz_undo rz_notes rz_tape rz_still at hR ⊢
  simp only [e1, e2, e3, e4, e5, e6, e7, e8, e9, e10, e11, e12, e13, e14, e15, e16, e17, e18, e19, e20, e21, e22, e23, e24, e25, e26, e27, e28, e29, e30, e31, e32, e33, e34, e35, e36, e37, e38, e39, f1, f2, f3, f4, f5, f6, f7, f8, f9, f10, f11, f12, f13, f14, f15, g1, g2, g3, g4, g5, g6, g7, g8, g9, g10, g11, g12, g13, g14, g15]
  exact hR
/-- a write of a place that the relation doesn't speak of -/
theorem rz_R_ui {σ : ra_S} {c k : Nat} {x : Int32} (hk : rz_P c k = false) (h : rz_R σ) : rz_R (ra_ui σ c k x) := by
  refine rz_R_eq (fun c' k' hp => ?_) h
  rw [ra_ui_get, if_neg]
  rintro ⟨rfl, rfl⟩
  rw [hp] at hk
  cases hk
theorem rz_R_ul {σ : ra_S} {c k : Nat} {x : Int64} (h : rz_R σ) : rz_R (ra_ul σ c k x) := rz_R_eq (fun _ _ _ => rfl) h
/-- a change of cells that the relation doesn't speak of -/
theorem rz_R_ex {σ τ : ra_S} {cs : List Nat} (he : ra_ex cs σ τ) (hc : ∀ c ∈ cs, ∀ k, rz_P c k = false) (h : rz_R σ) : rz_R τ := by
  refine rz_R_eq (fun c k hp => ?_) h
  rw [(he c (fun q => by have := hc c q k; rw [hp] at this; cases this)).1]
/-- a call on both sides: the same answer, the relation kept -/
def rz_OI (c m : Nat) (as : List Value) (σ : ra_S) : Prop := ∃ (v : Int32) (σ1 σ2 : ra_S), ra_C c (.ref 0 :: as) σ = ra_I v σ1 ∧ ra_C m (.ref 86 :: as) σ1 = ra_I v σ2 ∧ rz_R σ2
def rz_OJ (c m : Nat) (as : List Value) (σ : ra_S) : Prop := ∃ (v : Int64) (σ1 σ2 : ra_S), ra_C c (.ref 0 :: as) σ = ra_J v σ1 ∧ ra_C m (.ref 86 :: as) σ1 = ra_J v σ2 ∧ rz_R σ2
