-- ===== entries as they are; entry, spread, lag, verdict =====
def rz_lw0 (σ : ra_S) (p : Nat) : Nat := (σ.1 93 (5 * p)).toNatClampNeg
def rz_X0 (σ : ra_S) (p : Nat) : Int32 := σ.1 93 (5 * p + 1)
def rz_Y0 (σ : ra_S) (p : Nat) : Int32 := σ.1 93 (5 * p + 2)
def rz_S0 (σ : ra_S) (p q : Nat) : Bool := rz_bit (σ.1 94 p) q
def rz_H0 (σ : ra_S) (p q : Nat) : Bool := rz_bit (σ.1 95 p) q
noncomputable abbrev rz_EP (σ : ra_S) (len : Nat → Nat) (np nw : Nat) : rz_En := rz_mkE σ len (rz_lw0 σ) (rz_X0 σ) (rz_Y0 σ) (σ.1 101) (rz_S0 σ) (rz_H0 σ) false (rz_exf σ np nw 0 0 0 0 0)
theorem rz_lw0_lt {np nb nl nw : Nat} {len : Nat → Nat} {σ : ra_S} (hB : rz_base np nb nl nw len σ) {p : Nat} (hp : p < np) : rz_lw0 σ p < nl ∧ σ.1 18 p = nI (rz_lw0 σ p) ∧ σ.1 93 (5 * p) = nI (rz_lw0 σ p) := by
  obtain ⟨l, hl, e1, e2⟩ := (hB.2.2.1 p hp).2.1
  have := hB.1.2.2.1.2.2
  unfold rz_lw0
  rw [e2, nI_clamp (by omega)]
  exact ⟨hl, e1, rfl⟩
theorem rz_in40 {x : Int32} (h : rz_in x 0 30) : rz_in x 0 40 := ⟨h.1, by have := h.2; omega⟩
/-- fill, seen from the relation -/
theorem rz_fillF {np nb nl nw : Nat} {len : Nat → Nat} {σ τ : ra_S} (hB : rz_base np nb nl nw len σ) (hf : rz_ft σ τ) : ∃ υ : ra_S, ra_C 0 [.ref 62, .ref 10, .ref 48] τ = ra_V υ ∧ rz_ft σ υ ∧ rz_fitC np nl (rz_lw0 σ) (rz_X0 σ) (rz_Y0 σ) (σ.1 101) (rz_S0 σ) (rz_H0 σ) false υ ∧ (∀ c, ¬ (62 ≤ c ∧ c ≤ 68) → υ.1 c = τ.1 c) ∧ υ.2 = τ.2 ∧ (∀ p, p < np → υ.1 66 p = σ.1 101 p ∧ υ.1 67 p = σ.1 94 p ∧ υ.1 68 p = σ.1 95 p) ∧ υ.1 62 9 = -1 ∧ υ.1 62 10 = -1 ∧ υ.1 62 11 = 0 ∧ υ.1 62 12 = 0 := by
  obtain ⟨υ, e, g1, g2, g3, g4⟩ := rz_fill τ
  have c3 := hB.1.1.2.2
  have eq : ∀ p, p < np → υ.1 66 p = σ.1 101 p ∧ υ.1 67 p = σ.1 94 p ∧ υ.1 68 p = σ.1 95 p := fun p hp => by
    obtain ⟨-, -, -, a4, a5, a6⟩ := g3 p (by omega)
    obtain ⟨-, -, -, -, ⟨b1, b2, b3, b4⟩, ⟨b5, b6, b7, b8⟩⟩ := hB.2.2.1 p hp
    obtain ⟨-, -, s3, -⟩ := hB.2.2.2.2.2.1 p hp
    rw [a4, a5, a6, hf.1 51 (by omega), hf.1 23 (by omega), hf.1 24 (by omega), s3, b3, b4, b7, b8]
    exact ⟨rfl, rfl, rfl⟩
  refine ⟨υ, e, rz_ft.of hf (fun c hc => g1 c (by omega)), fun p hp => ?_, g1, g2, eq, g4⟩
  obtain ⟨a1, a2, a3, -⟩ := g3 p (by omega)
  obtain ⟨⟨s1, s2⟩, ⟨s3, s4⟩, -⟩ := hB.2.2.2.2.2.1 p hp
  obtain ⟨l1, l2, l3⟩ := rz_lw0_lt hB hp
  obtain ⟨q1, q2, q3⟩ := eq p hp
  refine ⟨by rw [a3, hf.1 18 (by omega), l2], l1, by rw [a1, hf.1 49 (by omega), s1]; rfl, by rw [a2, hf.1 50 (by omega), s3]; rfl, rz_in40 s2, rz_in40 s4, fun j hj => by rw [q1, Bool.and_false, Bool.or_false], fun q hq => by rw [q2, q3]; exact ⟨rfl, rfl⟩⟩
theorem rz_on_all {τ : ra_S} (h : τ.1 86 39 = -1) (q : Nat) : rz_on τ q = true := by
  unfold rz_on
  rw [h]; rfl
theorem rz_fitM_ft {np nb nl nw : Nat} {len : Nat → Nat} {σ τ : ra_S} (hB : rz_base np nb nl nw len σ) (hf : rz_ft σ τ) : rz_fitM np nl (rz_lw0 σ) (rz_X0 σ) (rz_Y0 σ) (σ.1 101) (rz_S0 σ) (rz_H0 σ) false σ τ := by
  have st : τ.1 86 39 = -1 := by rw [hf.2 39 (by decide)]; exact hB.2.2.2.2.2.2.1
  refine ⟨by rw [st]; rfl, hf.1 91 (by omega), hf.1 89 (by omega), hf.2 14 (by decide), hf.2 12 (by decide), fun p hp => ?_⟩
  obtain ⟨l1, l2, l3⟩ := rz_lw0_lt hB hp
  obtain ⟨⟨s1, s2⟩, ⟨s3, s4⟩, -⟩ := hB.2.2.2.2.2.1 p hp
  have e93 := hf.1 93 (by omega)
  refine ⟨by rw [e93, l3], l1, by rw [e93]; rfl, by rw [e93]; rfl, by rw [e93], rz_in40 s2, rz_in40 s4, fun j hj => by rw [hf.1 101 (by omega)], fun q hq => ?_⟩
  rw [rz_on_all st, Bool.true_and, Bool.true_and, hf.1 94 (by omega), hf.1 95 (by omega)]
  exact ⟨rfl, rfl⟩
theorem rz_MW_ft {np nb nl nw : Nat} {len : Nat → Nat} {σ τ : ra_S} (hB : rz_base np nb nl nw len σ) (hf : rz_ft σ τ) : rz_MW (rz_fw σ) nw τ := by
  have := hB.2.2.2.2.1.2
  unfold rz_MW at this ⊢
  rw [hf.2 15 (by decide), hf.1 96 (by omega)]
  exact this
theorem rz_TC_mk {np nb nl nw : Nat} {len : Nat → Nat} {σ υ : ra_S} (hB : rz_base np nb nl nw len σ) (hf : rz_ft σ υ) {E : rz_En} (h : ∀ b p, b < nb → p < np → υ.1 73 (8 * b + p) = Int32.ofInt (rz_e E np b p)) : rz_TC (rz_e E np) (fun n => (rz_sum len n : Int)) np nb υ := by
  obtain ⟨⟨c1, -, c3⟩, ⟨c4, -, c6⟩, -⟩ := id hB.1
  refine ⟨by rw [hf.1 16 (by omega)]; exact c1, c3, by rw [hf.1 10 (by omega)]; exact c4, c6, fun p hp => by rw [hf.1 75 (by omega)]; exact hB.2.2.2.2.2.2.2.2.2 p hp, fun b hb => ⟨Int.natCast_nonneg _, ?_, ?_⟩, fun b p hb hp => ⟨h b p hb hp, rz_e_in E np b p⟩⟩
  · show (rz_sum len b : Int) ≤ 10000000
    have := rz_sum_mono len (show b ≤ nb by omega)
    have := hB.2.2.2.1.2.2
    omega
  · rw [hf.1 25 (by omega), hB.2.2.2.1.2.1 b (by omega)]; rfl
theorem rz_TM_mk {np nb nl nw : Nat} {len : Nat → Nat} {σ υ : ra_S} (hB : rz_base np nb nl nw len σ) (h14 : υ.1 86 14 = σ.1 86 14) (h12 : υ.1 86 12 = σ.1 86 12) (h89 : υ.1 89 = σ.1 89) {E : rz_En} (h : ∀ b p, b < nb → p < np → υ.1 102 (8 * b + p) = Int32.ofInt (rz_e E np b p)) : rz_TM (rz_e E np) (fun n => (rz_sum len n : Int)) np nb υ := by
  obtain ⟨⟨-, c2, c3⟩, ⟨-, c5, c6⟩, -⟩ := id hB.1
  exact ⟨by rw [h14]; exact c2, c3, by rw [h12]; exact c5, c6, ⟨len, fun k hk => by rw [h89]; exact hB.2.2.2.1.1 k hk, fun n hn => rfl, hB.2.2.2.1.2.2⟩, fun b p hb hp => ⟨h b p hb hp, rz_e_in E np b p⟩⟩
theorem rz_noX {nb np : Nat} {υ : ra_S} (h : υ.1 62 11 = 0) (b p : Nat) : (if nI p = υ.1 62 9 then if nI b = υ.1 62 10 then υ.1 62 11 else 0 else 0) = Int32.ofInt (if 0 = p ∧ 0 = b then 0 else 0) := by
  rw [h]
  (repeat' split) <;> rfl
theorem rz_asC {np nb nl nw : Nat} {len : Nat → Nat} {σ τ : ra_S} (hB : rz_base np nb nl nw len σ) (hf : rz_ft σ τ) : ∃ υ : ra_S, ra_C 92 [.ref 0] τ = ra_V υ ∧ rz_ft σ υ ∧ rz_TC (rz_e (rz_EP σ len np nw) np) (fun n => (rz_sum len n : Int)) np nb υ ∧ ∀ p, p < np → υ.1 63 p = rz_X0 σ p ∧ υ.1 64 p = rz_Y0 σ p := by
  obtain ⟨υ, e, f1, fit, g1, g2, g3, g4, g5, g6, g7⟩ := rz_fillF hB hf
  obtain ⟨υ2, e2, f2, k1, k2, k3, k4, k5⟩ := rz_goC hB f1 fit (xp := 0) (xb := 0) (s := 0) (j := 0) (xv := 0) (by omega) g7 (by omega) (by omega) (fun b p _ _ => rz_noX (nb := nb) (np := np) g6 b p) (Or.inl rfl)
  refine ⟨υ2, by rw [e_92, e, ra_kV, e2, ra_kV], f2, rz_TC_mk hB f2 k4, fun p hp => ?_⟩
  rw [k1 63 (by decide), k1 64 (by decide)]
  exact ⟨(fit p hp).2.2.1, (fit p hp).2.2.2.1⟩
theorem rz_asM {np nb nl nw : Nat} {len : Nat → Nat} {σ τ : ra_S} (hB : rz_base np nb nl nw len σ) (hf : rz_ft σ τ) : ∃ υ : ra_S, ra_C 190 [.ref 86] τ = ra_V υ ∧ rz_ft σ υ ∧ rz_TM (rz_e (rz_EP σ len np nw) np) (fun n => (rz_sum len n : Int)) np nb υ := by
  have st : τ.1 86 39 = -1 := by rw [hf.2 39 (by decide)]; exact hB.2.2.2.2.2.2.1
  obtain ⟨υ, e, k1, k2, k3, k4⟩ := rz_goM hB (rz_fitM_ft hB hf) (xp := 0) (xb := 0) (s := 0) (j := 0) (xv := 0) (by omega) (by omega) (by omega) (Or.inl ⟨rz_MW_ft hB hf, rfl⟩) (Or.inl ⟨by rw [hf.2 41 (by decide)]; exact hB.2.2.2.2.2.2.2.2.1, rfl⟩)
  refine ⟨υ, e, rz_ft.of hf (fun c hc => k1 c (by omega)), rz_TM_mk hB ?_ ?_ ?_ (fun b p hb hp => k3 b p hb hp (rz_on_all st p))⟩
  · rw [k1 86 (by decide)]; exact hf.2 14 (by decide)
  · rw [k1 86 (by decide)]; exact hf.2 12 (by decide)
  · rw [k1 89 (by decide)]; exact hf.1 89 (by omega)
-- the questions, on both sides
theorem rz_kPc {np nb nl nw : Nat} {len : Nat → Nat} {σ τ : ra_S} (hB : rz_base np nb nl nw len σ) (hf : rz_ft σ τ) (x : Int32) : ra_C 130 [.ref 0, .int x] τ = ra_I (if 0 ≤ x.toInt ∧ x.toInt < np then 1 else 0) τ := ra_c_isPlayer (by rw [hf.1 16 (by omega)]; exact hB.1.1.1) hB.1.1.2.2 x
theorem rz_kPm {np nb nl nw : Nat} {len : Nat → Nat} {σ τ : ra_S} (hB : rz_base np nb nl nw len σ) (hf : rz_ft σ τ) (x : Int32) : ra_C 173 [.ref 86, .int x] τ = ra_I (if 0 ≤ x.toInt ∧ x.toInt < np then 1 else 0) τ := ra_m_isPlayer (by rw [hf.2 14 (by decide)]; exact hB.1.1.2.1) hB.1.1.2.2 x
theorem rz_kBc {np nb nl nw : Nat} {len : Nat → Nat} {σ τ : ra_S} (hB : rz_base np nb nl nw len σ) (hf : rz_ft σ τ) (x : Int32) : ra_C 131 [.ref 0, .int x] τ = ra_I (if 0 ≤ x.toInt ∧ x.toInt < nb then 1 else 0) τ := ra_c_isBeat (by rw [hf.1 10 (by omega)]; exact hB.1.2.1.1) hB.1.2.1.2.2 x
theorem rz_kBm {np nb nl nw : Nat} {len : Nat → Nat} {σ τ : ra_S} (hB : rz_base np nb nl nw len σ) (hf : rz_ft σ τ) (x : Int32) : ra_C 174 [.ref 86, .int x] τ = ra_I (if 0 ≤ x.toInt ∧ x.toInt < nb then 1 else 0) τ := ra_m_isBeat (by rw [hf.2 12 (by decide)]; exact hB.1.2.1.2.1) hB.1.2.1.2.2 x
theorem rz_kSc {np nb nl nw : Nat} {len : Nat → Nat} {σ τ : ra_S} (hB : rz_base np nb nl nw len σ) (hf : rz_ft σ τ) (x y : Int32) : ra_C 132 [.ref 0, .int x, .int y] τ = ra_I (if 0 ≤ x.toInt ∧ x.toInt ≤ y.toInt ∧ y.toInt < nb then 1 else 0) τ := ra_c_isSpan (by rw [hf.1 10 (by omega)]; exact hB.1.2.1.1) hB.1.2.1.2.2 x y
theorem rz_kSm {np nb nl nw : Nat} {len : Nat → Nat} {σ τ : ra_S} (hB : rz_base np nb nl nw len σ) (hf : rz_ft σ τ) (x y : Int32) : ra_C 207 [.ref 86, .int x, .int y] τ = ra_I (if 0 ≤ x.toInt ∧ x.toInt ≤ y.toInt ∧ y.toInt < nb then 1 else 0) τ := ra_m_areBeats (by rw [hf.2 12 (by decide)]; exact hB.1.2.1.2.1) hB.1.2.1.2.2 x y
theorem rz_t {P : Prop} [Decidable P] {α : Type} {x y : α} (h : P) : (if (if P then (1 : Int32) else 0) = 0 then x else y) = y := if_neg (by rw [ra_b0]; exact fun q => q h)
theorem rz_f {P : Prop} [Decidable P] {α : Type} {x y : α} (h : ¬ P) : (if (if P then (1 : Int32) else 0) = 0 then x else y) = x := if_pos (by rw [ra_b0]; exact h)
theorem rz_m_in (σ : ra_S) (a : Int32) {x y : Int32} (lo hi : Int) (hx : x.toInt = lo) (hy : y.toInt = hi) : ra_C 141 [.int a, .int x, .int y] σ = ra_I (if lo ≤ a.toInt ∧ a.toInt ≤ hi then 1 else 0) σ := by rw [ra_m_isIn, hx, hy]
theorem rz_c_in (σ : ra_S) (a : Int32) {x y : Int32} (lo hi : Int) (hx : x.toInt = lo) (hy : y.toInt = hi) : ra_C 136 [.int a, .int x, .int y] σ = ra_I (if lo ≤ a.toInt ∧ a.toInt ≤ hi then 1 else 0) σ := by rw [ra_c_within, hx, hy]
theorem rz_entry {σ : ra_S} (h : rz_R σ) (a b : Int32) : rz_OI 86 191 [.int a, .int b] σ := by
  obtain ⟨np, nb, nl, nw, len, hB⟩ := rz_base_of h
  have f0 := rz_ft.rf σ
  have f0' := f0.u2 (x := 0)
  have c3 := hB.1.1.2.2
  have c6 := hB.1.2.1.2.2
  by_cases v1 : 0 ≤ a.toInt ∧ a.toInt < np
  · by_cases v2 : 0 ≤ b.toInt ∧ b.toInt < nb
    · obtain ⟨υ, e1, f1, t1, -⟩ := rz_asC hB f0
      obtain ⟨υ2, e2, f2, t2⟩ := rz_asM hB (f1.u2 (x := 0))
      obtain ⟨p, hp, rfl⟩ := rz_nat (by omega) v1
      obtain ⟨n, hn, rfl⟩ := rz_nat (by omega) v2
      refine ⟨Int32.ofInt (rz_e (rz_EP σ len np nw) np n p), υ, υ2, ?_, ?_, rz_R_ft f2 h⟩
      · rw [e_86, rz_kPc hB f0, ra_kI, rz_t v1, rz_kBc hB f0, ra_kI, rz_t v2, e1, ra_kV, rz_c_at (by omega) (by omega), ra_kI, (t1.2.2.2.2.2.2 n p hn hp).1]
      · rw [e_191, rz_kPm hB (f1.u2), ra_kI, rz_t v1, rz_kBm hB (f1.u2), ra_kI, rz_t v2, e2, ra_kV, show (8 : Int32) * nI n = nI (8 * n) from pk_mul 8 n, nI_add, rz_ig (by omega) (by omega), nI_clamp (by omega), (t2.2.2.2.2.2 n p hn hp).1]
    · refine ⟨-2147483648, σ, ra_ui σ 86 2 0, ?_, ?_, rz_R_ft f0' h⟩
      · rw [e_86, rz_kPc hB f0, ra_kI, rz_t v1, rz_kBc hB f0, ra_kI, rz_f v2]
      · rw [e_191, rz_kPm hB f0', ra_kI, rz_t v1, rz_kBm hB f0', ra_kI, rz_f v2]
  · refine ⟨-2147483648, σ, ra_ui σ 86 2 0, ?_, ?_, rz_R_ft f0' h⟩
    · rw [e_86, rz_kPc hB f0, ra_kI, rz_f v1]
    · rw [e_191, rz_kPm hB f0', ra_kI, rz_f v1]
theorem rz_spread {σ : ra_S} (h : rz_R σ) (a : Int32) : rz_OI 87 194 [.int a] σ := by
  obtain ⟨np, nb, nl, nw, len, hB⟩ := rz_base_of h
  have f0 := rz_ft.rf σ
  have f0' := f0.u2 (x := 0)
  have c6 := hB.1.2.1.2.2
  by_cases v2 : 0 ≤ a.toInt ∧ a.toInt < nb
  · obtain ⟨υ, e1, f1, t1, -⟩ := rz_asC hB f0
    obtain ⟨υ2, e2, f2, t2⟩ := rz_asM hB (f1.u2 (x := 0))
    obtain ⟨n, hn, rfl⟩ := rz_nat (by omega) v2
    refine ⟨Int32.ofInt (rz_wd (rz_e (rz_EP σ len np nw) np n) np), υ, υ2, ?_, ?_, rz_R_ft f2 h⟩
    · rw [e_87, rz_kBc hB f0, ra_kI, rz_t v2, e1, ra_kV, rz_c_spread t1 hn, ra_kI]
    · rw [e_194, rz_kBm hB (f1.u2), ra_kI, rz_t v2, e2, ra_kV, rz_m_spread t2 hn, ra_kI]
  · refine ⟨-1, σ, ra_ui σ 86 2 0, ?_, ?_, rz_R_ft f0' h⟩
    · rw [e_87, rz_kBc hB f0, ra_kI, rz_f v2]
    · rw [e_194, rz_kBm hB f0', ra_kI, rz_f v2]
theorem rz_lag {σ : ra_S} (h : rz_R σ) (a : Int32) : rz_OI 88 195 [.int a] σ := by
  obtain ⟨np, nb, nl, nw, len, hB⟩ := rz_base_of h
  have f0 := rz_ft.rf σ
  have f0' := f0.u2 (x := 0)
  have c6 := hB.1.2.1.2.2
  by_cases v2 : 0 ≤ a.toInt ∧ a.toInt < nb
  · obtain ⟨υ, e1, f1, t1, -⟩ := rz_asC hB f0
    obtain ⟨υ2, e2, f2, t2⟩ := rz_asM hB (f1.u2 (x := 0))
    obtain ⟨n, hn, rfl⟩ := rz_nat (by omega) v2
    refine ⟨Int32.ofInt (rz_lg (fun p => rz_e (rz_EP σ len np nw) np n p - (rz_sum len n : Int)) np), υ, υ2, ?_, ?_, rz_R_ft f2 h⟩
    · rw [e_88, rz_kBc hB f0, ra_kI, rz_t v2, e1, ra_kV, rz_c_lag t1 hn, ra_kI]
    · rw [e_195, rz_kBm hB (f1.u2), ra_kI, rz_t v2, e2, ra_kV, rz_m_lag t2 hn, ra_kI]
  · refine ⟨-2147483648, σ, ra_ui σ 86 2 0, ?_, ?_, rz_R_ft f0' h⟩
    · rw [e_88, rz_kBc hB f0, ra_kI, rz_f v2]
    · rw [e_195, rz_kBm hB f0', ra_kI, rz_f v2]
theorem rz_verdict {σ : ra_S} (h : rz_R σ) (a : Int32) : rz_OI 89 197 [.int a] σ := by
  obtain ⟨np, nb, nl, nw, len, hB⟩ := rz_base_of h
  have f0 := rz_ft.rf σ
  have f0' := f0.u2 (x := 0)
  obtain ⟨c4, c5, c6⟩ := hB.1.2.1
  by_cases z : nb = 0
  · subst z
    refine ⟨-1, σ, ra_ui σ 86 2 0, ?_, ?_, rz_R_ft f0' h⟩
    · rw [e_89, c4]; rfl
    · rw [e_197, c5]; rfl
  have nz : ¬ nI nb = 0 := nI_ne0 (by omega) (by omega)
  by_cases v2 : 0 ≤ a.toInt ∧ a.toInt ≤ 9999
  · obtain ⟨υ, e1, f1, t1, -⟩ := rz_asC hB f0
    obtain ⟨υ2, e2, f2, t2⟩ := rz_asM hB (f1.u2 (x := 0))
    refine ⟨Int32.ofInt (rz_ver (rz_e (rz_EP σ len np nw) np) (fun n => (rz_sum len n : Int)) np nb a.toInt), υ, υ2, ?_, ?_, rz_R_ft f2 h⟩
    · rw [e_89, c4, if_neg nz, ra_c_isOff, ra_kI, rz_t v2, e1, ra_kV, rz_c_ver t1 (by omega) a v2, ra_kI]
    · rw [e_197, f1.2 12 (by decide), c5, if_neg nz, rz_m_in _ _ 0 9999 rfl rfl, ra_kI, rz_t v2, e2, ra_kV, rz_m_ver t2 (by omega) a v2, ra_kI]
  · refine ⟨-1, σ, ra_ui σ 86 2 0, ?_, ?_, rz_R_ft f0' h⟩
    · rw [e_89, c4, if_neg nz, ra_c_isOff, ra_kI, rz_f v2]
    · rw [e_197, c5, if_neg nz, rz_m_in _ _ 0 9999 rfl rfl, ra_kI, rz_f v2]
