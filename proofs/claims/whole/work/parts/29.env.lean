-- ===== frames: what calls may change without touching the relation =====
/-- cells that no relation speaks of -/
def rz_sc (c : Nat) : Prop := c = 61 ∨ (62 ≤ c ∧ c ≤ 85 ∧ c ≠ 75) ∨ c = 102 ∨ c = 104 ∨ c = 105 ∨ (109 ≤ c ∧ c ≤ 114)
def rz_ft (σ τ : ra_S) : Prop := (∀ c, ¬ (c = 86 ∨ c = 61 ∨ (62 ≤ c ∧ c ≤ 85 ∧ c ≠ 75) ∨ c = 102 ∨ c = 104 ∨ c = 105 ∨ (109 ≤ c ∧ c ≤ 114)) → τ.1 c = σ.1 c) ∧ ∀ k, k ≠ 2 → τ.1 86 k = σ.1 86 k
theorem rz_ft.rf (σ : ra_S) : rz_ft σ σ := ⟨fun _ _ => rfl, fun _ _ => rfl⟩
theorem rz_ft.tr {σ τ υ : ra_S} (h : rz_ft σ τ) (h2 : rz_ft τ υ) : rz_ft σ υ := ⟨fun c hc => (h2.1 c hc).trans (h.1 c hc), fun k hk => (h2.2 k hk).trans (h.2 k hk)⟩
theorem rz_ft.ui {σ τ : ra_S} (h : rz_ft σ τ) {c k : Nat} {x : Int32} (hc : (61 ≤ c ∧ c ≤ 85 ∧ c ≠ 75) ∨ c = 102 ∨ c = 104 ∨ c = 105 ∨ (109 ≤ c ∧ c ≤ 114)) : rz_ft σ (ra_ui τ c k x) := ⟨fun d hd => by rw [ra_ui_1 d (fun q => by omega)]; exact h.1 d hd, fun j hj => by rw [ra_ui_1 86 (fun q => by omega)]; exact h.2 j hj⟩
theorem rz_ft.u2 {σ τ : ra_S} (h : rz_ft σ τ) {x : Int32} : rz_ft σ (ra_ui τ 86 2 x) := ⟨fun d hd => by rw [ra_ui_1 d (fun q => by omega)]; exact h.1 d hd, fun j hj => by rw [ra_ui_get, if_neg (fun q => hj q.2)]; exact h.2 j hj⟩
theorem rz_ft.ul {σ τ : ra_S} (h : rz_ft σ τ) {c k : Nat} {x : Int64} : rz_ft σ (ra_ul τ c k x) := h
/-- by what stays -/
theorem rz_ft.of {σ τ υ : ra_S} (h : rz_ft σ τ) (g : ∀ c, ¬ (c = 61 ∨ (62 ≤ c ∧ c ≤ 85 ∧ c ≠ 75) ∨ c = 102 ∨ c = 104 ∨ c = 105 ∨ (109 ≤ c ∧ c ≤ 114)) → υ.1 c = τ.1 c) : rz_ft σ υ := ⟨fun c hc => (g c (fun q => hc (Or.inr q))).trans (h.1 c hc), fun k hk => by rw [g 86 (by omega)]; exact h.2 k hk⟩
theorem rz_P_out {c k : Nat} (h : rz_P c k = true) : ¬ (c = 61 ∨ (62 ≤ c ∧ c ≤ 85 ∧ c ≠ 75) ∨ c = 102 ∨ c = 104 ∨ c = 105 ∨ (109 ≤ c ∧ c ≤ 114)) ∧ ¬ (c = 86 ∧ k = 2) := by
  unfold rz_P at h
  simp only [Bool.or_eq_true, Bool.and_eq_true, Nat.beq_eq, Nat.ble_eq] at h
  omega
theorem rz_R_ft {σ τ : ra_S} (h : rz_ft σ τ) (hR : rz_R σ) : rz_R τ := by
  refine rz_R_eq (fun c k hp => ?_) hR
  obtain ⟨h1, h2⟩ := rz_P_out hp
  by_cases q : c = 86
  · subst q; exact h.2 k (fun z => h2 ⟨rfl, z⟩)
  · rw [h.1 c (by omega)]
-- ===== what a call finds, with names =====
def rz_fw (σ : ra_S) (w : Nat) : Nat × Nat × Int := ((σ.1 26 w).toNatClampNeg, (σ.1 27 w).toNatClampNeg, (σ.1 28 w).toInt)
def rz_base (np nb nl nw : Nat) (len : Nat → Nat) (σ : ra_S) : Prop := rz_counts np nb nl nw σ ∧ rz_laws nl σ ∧ rz_players np nl σ ∧ ((∀ k, k < nb → σ.1 89 k = nI (len k)) ∧ (∀ n, n ≤ nb → σ.1 25 n = nI (rz_sum len n)) ∧ rz_sum len nb ≤ 10000000) ∧ (rz_CW (rz_fw σ) nw σ ∧ rz_MW (rz_fw σ) nw σ) ∧ rz_stage np σ ∧ rz_still σ
theorem rz_base_of {σ : ra_S} (h : rz_R σ) : ∃ (np nb nl nw : Nat) (len : Nat → Nat), rz_base np nb nl nw len σ := by
  obtain ⟨np, nb, nl, nw, ku, tp, nn, tc, h1, h2, h3, ⟨len, h4⟩, h5, h6, h7, h8, h9, h10⟩ := h
  obtain ⟨⟨-, -, p8⟩, -, -, ⟨w1, w2, w3⟩, -⟩ := id h1
  have key : ∀ w, w < nw → σ.1 26 w = nI (rz_fw σ w).1 ∧ σ.1 27 w = nI (rz_fw σ w).2.1 ∧ σ.1 28 w = Int32.ofInt (rz_fw σ w).2.2 ∧ σ.1 96 (3 * w) = nI (rz_fw σ w).1 ∧ σ.1 96 (3 * w + 1) = nI (rz_fw σ w).2.1 ∧ σ.1 96 (3 * w + 2) = Int32.ofInt (rz_fw σ w).2.2 ∧ (rz_fw σ w).1 < 100 ∧ (rz_fw σ w).2.1 < 100 ∧ -2000 ≤ (rz_fw σ w).2.2 ∧ (rz_fw σ w).2.2 ≤ 2000 := by
    intro w hw
    obtain ⟨⟨p, hp, a1, a2⟩, ⟨n, hn, b1, b2⟩, c1, c2⟩ := h5 w hw
    unfold rz_fw
    dsimp only
    rw [a1, a2, b1, b2, c1, nI_clamp (by omega), nI_clamp (by omega), rz_ofI]
    exact ⟨rfl, rfl, rfl, rfl, rfl, rfl, by omega, by omega, c2.1, c2.2⟩
  refine ⟨np, nb, nl, nw, len, h1, h2, h3, h4, ⟨⟨w1, w3, fun w hw => ?_⟩, ⟨w2, by omega, fun w hw => ?_⟩⟩, h6, h10⟩
  · obtain ⟨k1, k2, k3, -, -, -, k7⟩ := key w hw
    exact ⟨k1, k2, k3, k7⟩
  · obtain ⟨-, -, -, k4, k5, k6, k7⟩ := key w hw
    exact ⟨k4, k5, k6, k7⟩
-- ===== the entries' environment out of a store =====
noncomputable def rz_mkE (σ : ra_S) (len : Nat → Nat) (lw : Nat → Nat) (X Y T : Nat → Int32) (S H : Nat → Nat → Bool) (al : Bool) (ex : Nat → Nat → Int) : rz_En :=
  (fun p j => if rz_bit (T p) j = true then 0 else if j = 0 ∧ al = true then 0 else (σ.1 91 (6 * lw p + j)).toInt,
   fun p => (σ.1 91 (6 * lw p + 4)).toInt - rz_ah σ p (lw p),
   fun n => (rz_sum len n : Int), S, H,
   fun p q => (σ.1 93 (5 * q + 3)).toInt + (rz_wyf (X p) (Y p) (X q) (Y q) : Int) - rz_ah σ p (lw p), ex)
/-- what is added: wrongs, one more, chance -/
def rz_exf (σ : ra_S) (np nw xp xb : Nat) (xv : Int) (s j b p : Nat) : Int := rz_wsum (rz_fw σ) p b nw + (if xp = p ∧ xb = b then xv else 0) + rz_jt s j (b * np + p)
theorem rz_exf_in {σ : ra_S} {np nw xp xb s j : Nat} {xv : Int} (hW : rz_CW (rz_fw σ) nw σ) (hx : -2000 ≤ xv ∧ xv ≤ 2000) (hj : j ≤ 200) (b p : Nat) : -1000000 ≤ rz_exf σ np nw xp xb xv s j b p ∧ rz_exf σ np nw xp xb xv s j b p ≤ 1000000 := by
  have win := rz_wsum_in (fun w hw => (hW.2.2 w hw).2.2.2.2.2) p b
  have jin := rz_jt_in s j (b * np + p)
  have hnw := hW.2.1
  unfold rz_exf
  by_cases z : xp = p ∧ xb = b
  · rw [if_pos z]; omega
  · rw [if_neg z]; omega
theorem rz_ah_in {np nb nl nw : Nat} {len : Nat → Nat} {σ : ra_S} (hB : rz_base np nb nl nw len σ) {p l : Nat} (hp : p < np) : 0 ≤ rz_ah σ p l ∧ rz_ah σ p l ≤ 300 := by
  obtain ⟨-, -, h3, -⟩ := hB
  obtain ⟨-, -, ⟨-, h⟩, -⟩ := h3 p hp
  unfold rz_ah
  by_cases z : σ.1 91 (6 * l + 5) = 1
  · rw [if_pos z]; exact h
  · rw [if_neg z]; omega
theorem rz_Eok_mk {np nb nl nw : Nat} {len : Nat → Nat} {σ : ra_S} (hB : rz_base np nb nl nw len σ) {lw : Nat → Nat} {X Y T : Nat → Int32} {S H : Nat → Nat → Bool} {al : Bool} {ex : Nat → Nat → Int} (hl : ∀ p, p < np → lw p < nl) (hX : ∀ p, p < np → rz_in (X p) 0 40 ∧ rz_in (Y p) 0 40) (hex : ∀ b p, b < nb → p < np → -1000000 ≤ ex b p ∧ ex b p ≤ 1000000) : rz_Eok (rz_mkE σ len lw X Y T S H al ex) np nb := by
  obtain ⟨h1, h2, h3, h4, h5, h6, h7⟩ := id hB
  refine ⟨fun p hp j hj => ?_, fun p hp => ?_, fun b hb => ?_, fun p q hp hq => ?_, hex⟩
  · show 0 ≤ (if rz_bit (T p) j = true then 0 else if j = 0 ∧ al = true then 0 else (σ.1 91 (6 * lw p + j)).toInt) ∧ (if rz_bit (T p) j = true then 0 else if j = 0 ∧ al = true then 0 else (σ.1 91 (6 * lw p + j)).toInt) ≤ 9
    have := ((h2 (lw p) (hl p hp)).2.1 j hj).2
    (repeat' split) <;> omega
  · show -1000 ≤ (σ.1 91 (6 * lw p + 4)).toInt - rz_ah σ p (lw p) ∧ (σ.1 91 (6 * lw p + 4)).toInt - rz_ah σ p (lw p) ≤ 1000
    have a := (h2 (lw p) (hl p hp)).2.2.1.2
    have b := rz_ah_in hB (l := lw p) hp
    have := a.1
    have := a.2
    omega
  · show 0 ≤ (rz_sum len b : Int) ∧ (rz_sum len b : Int) ≤ 10000000
    have := rz_sum_mono len hb
    omega
  · show -10000 ≤ (σ.1 93 (5 * q + 3)).toInt + (rz_wyf (X p) (Y p) (X q) (Y q) : Int) - rz_ah σ p (lw p) ∧ (σ.1 93 (5 * q + 3)).toInt + (rz_wyf (X p) (Y p) (X q) (Y q) : Int) - rz_ah σ p (lw p) ≤ 10000
    have a := (h3 q hq).2.2.1.2
    have b := rz_ah_in hB (l := lw p) hp
    have c := rz_wyf_lt (hX p hp).1 (hX p hp).2 (hX q hq).1 (hX q hq).2
    have := a.1
    have := a.2
    omega
/-- the class's cast fits an environment -/
def rz_fitC (np nl : Nat) (lw : Nat → Nat) (X Y T : Nat → Int32) (S H : Nat → Nat → Bool) (al : Bool) (τ : ra_S) : Prop := ∀ p, p < np → τ.1 65 p = nI (lw p) ∧ lw p < nl ∧ τ.1 63 p = X p ∧ τ.1 64 p = Y p ∧ rz_in (X p) 0 40 ∧ rz_in (Y p) 0 40 ∧ (∀ j, j < 4 → rz_bit (τ.1 66 p) j = (rz_bit (T p) j || (decide (j = 0) && al))) ∧ ∀ q, q < np → rz_bit (τ.1 67 p) q = S p q ∧ rz_bit (τ.1 68 p) q = H p q
theorem rz_CA_mk {np nb nl nw : Nat} {len : Nat → Nat} {σ τ : ra_S} (hB : rz_base np nb nl nw len σ) (hf : rz_ft σ τ) {lw : Nat → Nat} {X Y T : Nat → Int32} {S H : Nat → Nat → Bool} {al : Bool} {ex : Nat → Nat → Int} (hc : rz_fitC np nl lw X Y T S H al τ) : rz_CA (rz_mkE σ len lw X Y T S H al ex) np nb nl τ := by
  obtain ⟨h1, h2, h3, h4, h5, h6, h7⟩ := id hB
  obtain ⟨⟨c1, -, c3⟩, ⟨c4, -, c6⟩, ⟨c7, -, c9⟩, -⟩ := id h1
  have cah : ∀ p l, p < np → l < nl → rz_cah τ p l = rz_ah σ p l := fun p l hp hl => by
    obtain ⟨-, -, ⟨s1, -⟩, -⟩ := h3 p hp
    obtain ⟨-, -, -, a1, a2⟩ := h2 l hl
    unfold rz_cah rz_ah
    rw [hf.1 15 (by omega), hf.1 21 (by omega), s1, a1]
    rcases a2 with a2 | a2 <;> rw [a2]
    · rw [if_pos rfl, if_neg (by decide)]
    · rw [if_neg (by decide), if_pos rfl]
  refine ⟨by rw [hf.1 16 (by omega)]; exact c1, by rw [hf.1 10 (by omega)]; exact c4, c3, c6, ⟨by rw [hf.1 11 (by omega)]; exact c7, c9⟩, fun p hp => ?_, fun q hq => ?_, fun p q hp hq => ?_, fun n hn => ?_⟩
  · obtain ⟨k1, k2, k3, k4, k5, k6, k7, k8⟩ := hc p hp
    refine ⟨lw p, k2, k1, fun j hj => ?_, ?_, by rw [k3]; exact k5, by rw [k4]; exact k6, fun q hq => ?_⟩
    · show (if rz_bit (T p) j = true then 0 else if j = 0 ∧ al = true then 0 else (σ.1 91 (6 * lw p + j)).toInt) = _
      rw [k7 j hj, hf.1 13 (by omega), ((h2 (lw p) k2).2.1 j hj).1]
      by_cases z : rz_bit (T p) j = true
      · rw [if_pos z, z, Bool.true_or, if_pos rfl]
      · rw [if_neg z, Bool.eq_false_iff.mpr z, Bool.false_or]
        by_cases y : j = 0 ∧ al = true
        · rw [if_pos y, y.2, decide_eq_true y.1]; rfl
        · rw [if_neg y, if_neg]
          intro w
          rw [Bool.and_eq_true, decide_eq_true_iff] at w
          exact y w
    · show (σ.1 91 (6 * lw p + 4)).toInt - rz_ah σ p (lw p) = _
      rw [hf.1 14 (by omega), cah p (lw p) hp k2, (h2 (lw p) k2).2.2.1.1]
    · show (σ.1 93 (5 * q + 3)).toInt + (rz_wyf (X p) (Y p) (X q) (Y q) : Int) - rz_ah σ p (lw p) = _
      obtain ⟨-, -, q3, q4, -⟩ := hc q hq
      rw [cah p (lw p) hp k2, k3, k4, q3, q4, hf.1 21 (by omega), (h3 q hq).2.2.1.1]
  · rw [hf.1 21 (by omega), (h3 q hq).2.2.1.1]; exact (h3 q hq).2.2.1.2
  · obtain ⟨-, -, -, -, -, -, -, k8⟩ := hc p hp
    exact ⟨(k8 q hq).1.symm, (k8 q hq).2.symm⟩
  · rw [hf.1 25 (by omega), h4.2.1 n hn]; rfl
/-- the reference's store fits an environment -/
def rz_fitM (np nl : Nat) (lw : Nat → Nat) (X Y T : Nat → Int32) (S H : Nat → Nat → Bool) (al : Bool) (σ τ : ra_S) : Prop := al = decide (¬ τ.1 86 39 < 0) ∧ τ.1 91 = σ.1 91 ∧ τ.1 89 = σ.1 89 ∧ τ.1 86 14 = σ.1 86 14 ∧ τ.1 86 12 = σ.1 86 12 ∧ ∀ p, p < np → τ.1 93 (5 * p) = nI (lw p) ∧ lw p < nl ∧ τ.1 93 (5 * p + 1) = X p ∧ τ.1 93 (5 * p + 2) = Y p ∧ τ.1 93 (5 * p + 3) = σ.1 93 (5 * p + 3) ∧ rz_in (X p) 0 40 ∧ rz_in (Y p) 0 40 ∧ (∀ j, j < 4 → rz_bit (τ.1 101 p) j = rz_bit (T p) j) ∧ ∀ q, q < np → S p q = (rz_on τ q && rz_bit (τ.1 94 p) q) ∧ H p q = (rz_on τ q && rz_bit (τ.1 95 p) q)
theorem rz_MA_mk {np nb nl nw : Nat} {len : Nat → Nat} {σ τ : ra_S} (hB : rz_base np nb nl nw len σ) {lw : Nat → Nat} {X Y T : Nat → Int32} {S H : Nat → Nat → Bool} {al : Bool} {ex : Nat → Nat → Int} (hc : rz_fitM np nl lw X Y T S H al σ τ) : rz_MA (rz_mkE σ len lw X Y T S H al ex) np nb τ := by
  obtain ⟨h1, h2, h3, h4, h5, h6, h7⟩ := id hB
  obtain ⟨⟨-, c2, c3⟩, ⟨-, c5, c6⟩, ⟨-, -, c9⟩, -⟩ := id h1
  obtain ⟨f1, f2, f3, f4, f5, f6⟩ := hc
  have ah : ∀ p l, p < np → rz_ah τ p l = rz_ah σ p l := fun p l hp => by
    unfold rz_ah
    rw [f2, (f6 p hp).2.2.2.2.1]
  refine ⟨by rw [f4]; exact c2, by rw [f5]; exact c5, c3, c6, fun p hp => ?_, fun p q hp hq => (f6 p hp).2.2.2.2.2.2.2.2 q hq, len, fun k hk => by rw [f3]; exact h4.1 k hk, fun n hn => rfl, h4.2.2⟩
  obtain ⟨k1, k2, k3, k4, k5, k6, k7, k8, k9⟩ := f6 p hp
  refine ⟨lw p, by omega, k1, fun j hj => ?_, ?_, ?_, ?_, by rw [k3]; exact k6, by rw [k4]; exact k7, fun q hq => ?_⟩
  · show (if rz_bit (T p) j = true then 0 else if j = 0 ∧ al = true then 0 else (σ.1 91 (6 * lw p + j)).toInt) = _
    rw [k8 j hj, ← f1, f2]
  · show (σ.1 91 (6 * lw p + 4)).toInt - rz_ah σ p (lw p) = _
    rw [f2, ah p _ hp]
  · rw [f2]; exact (h2 (lw p) k2).2.2.1.2
  · rw [k5]; exact (h3 p hp).2.2.1.2
  · show (σ.1 93 (5 * q + 3)).toInt + (rz_wyf (X p) (Y p) (X q) (Y q) : Int) - rz_ah σ p (lw p) = _
    obtain ⟨-, -, q3, q4, q5, -⟩ := f6 q hq
    rw [ah p _ hp, k3, k4, q3, q4, q5]
-- ===== the class fills its cast =====
theorem rz_fill (τ : ra_S) : ∃ υ : ra_S, ra_C 0 [.ref 62, .ref 10, .ref 48] τ = ra_V υ ∧ (∀ c, ¬ (62 ≤ c ∧ c ≤ 68) → υ.1 c = τ.1 c) ∧ υ.2 = τ.2 ∧ (∀ p, p < 8 → υ.1 63 p = τ.1 49 p ∧ υ.1 64 p = τ.1 50 p ∧ υ.1 65 p = τ.1 18 p ∧ υ.1 66 p = τ.1 51 p ∧ υ.1 67 p = τ.1 23 p ∧ υ.1 68 p = τ.1 24 p) ∧ υ.1 62 9 = -1 ∧ υ.1 62 10 = -1 ∧ υ.1 62 11 = 0 ∧ υ.1 62 12 = 0 := by
  have loop : ∀ d k, k + d = 8 → ∀ υ : ra_S, (∀ c, ¬ (62 ≤ c ∧ c ≤ 68) → υ.1 c = τ.1 c) → υ.2 = τ.2 → (∀ p, p < k → υ.1 63 p = τ.1 49 p ∧ υ.1 64 p = τ.1 50 p ∧ υ.1 65 p = τ.1 18 p ∧ υ.1 66 p = τ.1 51 p ∧ υ.1 67 p = τ.1 23 p ∧ υ.1 68 p = τ.1 24 p) → ∃ υ' : ra_S, ra_D (ra_lay, none, 99999, ra_m0) 2 [some (.ref 62), some (.ref 10), some (.ref 48), some (.int (nI k))] [] υ = ra_V υ' ∧ (∀ c, ¬ (62 ≤ c ∧ c ≤ 68) → υ'.1 c = τ.1 c) ∧ υ'.2 = τ.2 ∧ (∀ p, p < 8 → υ'.1 63 p = τ.1 49 p ∧ υ'.1 64 p = τ.1 50 p ∧ υ'.1 65 p = τ.1 18 p ∧ υ'.1 66 p = τ.1 51 p ∧ υ'.1 67 p = τ.1 23 p ∧ υ'.1 68 p = τ.1 24 p) ∧ υ'.1 62 9 = -1 ∧ υ'.1 62 10 = -1 ∧ υ'.1 62 11 = 0 ∧ υ'.1 62 12 = 0 := by
    intro d
    induction d with
    | zero =>
      intro k hk υ h1 h2 h3
      have : k = 8 := by omega
      subst this
      rw [e_0_2, if_neg (by decide)]
      refine ⟨_, rfl, fun c hc => ?_, h2, fun p hp => ?_, ?_⟩
      · rw [ra_ui_1 c (by omega), ra_ui_1 c (by omega), ra_ui_1 c (by omega), ra_ui_1 c (by omega)]; exact h1 c hc
      · simp only [ra_ui_get, Nat.reduceEqDiff, false_and, if_false]; exact h3 p hp
      · simp only [ra_ui_get, Nat.reduceEqDiff, and_false, and_self, if_false, if_true]
    | succ d ih =>
      intro k hk υ h1 h2 h3
      rw [e_0_2, show (8 : Int32) = nI 8 from rfl, rz_il (by omega) (by omega)]
      repeat rw [rz_ig (by omega) (by omega)]
      rw [nI_clamp (by omega), nI_1]
      refine ih (k + 1) (by omega) _ (fun c hc => ?_) h2 (fun p hp => ?_)
      · rw [ra_ui_1 c (by omega), ra_ui_1 c (by omega), ra_ui_1 c (by omega), ra_ui_1 c (by omega), ra_ui_1 c (by omega), ra_ui_1 c (by omega)]; exact h1 c hc
      · simp only [ra_ui_get, Nat.reduceEqDiff, false_and, true_and, if_false, h1 49 (by omega), h1 50 (by omega), h1 18 (by omega), h1 51 (by omega), h1 23 (by omega), h1 24 (by omega)]
        by_cases y : p = k
        · subst y; simp only [if_true, and_self]
        · simp only [y, if_false]; exact h3 p (by omega)
  obtain ⟨υ, e, h⟩ := loop 8 0 (by omega) τ (fun _ _ => rfl) rfl (fun p hp => by omega)
  exact ⟨υ, by rw [e_0]; exact e, h⟩
-- ===== runs on both sides, by a store σ that both go out from =====
theorem rz_goC {np nb nl nw : Nat} {len : Nat → Nat} {σ τ : ra_S} (hB : rz_base np nb nl nw len σ) (hf : rz_ft σ τ) {lw : Nat → Nat} {X Y T : Nat → Int32} {S H : Nat → Nat → Bool} {al : Bool} (hc : rz_fitC np nl lw X Y T S H al τ) {xp xb s j : Nat} {xv : Int} (hxv : -2000 ≤ xv ∧ xv ≤ 2000) (hj : τ.1 62 12 = nI j) (hj2 : j ≤ 200) (hs : s < 2147483648) (hxt : ∀ b p, b < nb → p < np → (if nI p = τ.1 62 9 then if nI b = τ.1 62 10 then τ.1 62 11 else 0 else 0) = Int32.ofInt (if xp = p ∧ xb = b then xv else 0)) (h0 : j = 0 ∨ τ.1 62 13 = nI s) :
    ∃ υ : ra_S, ra_C 42 [.ref 72, .ref 10, .ref 62] τ = ra_V υ ∧ rz_ft σ υ ∧ (∀ c, c ∉ [62, 69, 70, 71, 73, 74] → υ.1 c = τ.1 c) ∧ (∀ k, k ≠ 13 → υ.1 62 k = τ.1 62 k) ∧ (∀ c, c ≠ 72 → υ.2 c = τ.2 c) ∧ (∀ b p, b < nb → p < np → υ.1 73 (8 * b + p) = Int32.ofInt (rz_e (rz_mkE σ len lw X Y T S H al (rz_exf σ np nw xp xb xv s j)) np b p)) ∧ (j = 0 ∨ υ.1 62 13 = nI (rz_sd s (nb * np))) := by
  have hW : rz_CW (rz_fw σ) nw τ := by
    have := hB.2.2.2.2.1.1
    unfold rz_CW at this ⊢
    rw [hf.1 10 (by omega), hf.1 26 (by omega), hf.1 27 (by omega), hf.1 28 (by omega)]
    exact this
  obtain ⟨υ, e, g1, g2, g3, g4, g5⟩ := rz_c_run (E := rz_mkE σ len lw X Y T S H al (rz_exf σ np nw xp xb xv s j)) (xt := fun b p => if xp = p ∧ xb = b then xv else 0) (rz_CA_mk hB hf hc) (rz_Eok_mk hB (fun p hp => (hc p hp).2.1) (fun p hp => ⟨(hc p hp).2.2.2.2.1, (hc p hp).2.2.2.2.2.1⟩) (fun b p _ _ => rz_exf_in hB.2.2.2.2.1.1 hxv hj2 b p)) hW hj hj2 hs (fun b p hb hp => ⟨hxt b p hb hp, by split <;> omega⟩) (fun b p _ _ => rfl) h0
  refine ⟨υ, e, rz_ft.of hf (fun c hc => g1 c ?_), g1, g2, g3, g4, g5⟩
  simp only [List.mem_cons, List.not_mem_nil, or_false, not_or]
  omega
theorem rz_goCb {np nb nl nw : Nat} {len : Nat → Nat} {σ τ : ra_S} (hB : rz_base np nb nl nw len σ) (hf : rz_ft σ τ) {lw : Nat → Nat} {X Y T : Nat → Int32} {S H : Nat → Nat → Bool} {al : Bool} (hc : rz_fitC np nl lw X Y T S H al τ) {xp xb s j : Nat} {xv : Int} (hxv : -2000 ≤ xv ∧ xv ≤ 2000) (hj : τ.1 62 12 = nI j) (hj2 : j ≤ 200) (hs : s < 2147483648) (hxt : ∀ b p, b < nb → p < np → (if nI p = τ.1 62 9 then if nI b = τ.1 62 10 then τ.1 62 11 else 0 else 0) = Int32.ofInt (if xp = p ∧ xb = b then xv else 0)) (h0 : j = 0 ∨ τ.1 62 13 = nI s) :
    ∃ υ : ra_S, ra_C 42 [.ref 77, .ref 10, .ref 62] τ = ra_V υ ∧ rz_ft σ υ ∧ (∀ c, c ∉ [62, 69, 70, 71, 78, 79] → υ.1 c = τ.1 c) ∧ (∀ k, k ≠ 13 → υ.1 62 k = τ.1 62 k) ∧ (∀ c, c ≠ 77 → υ.2 c = τ.2 c) ∧ (∀ b p, b < nb → p < np → υ.1 78 (8 * b + p) = Int32.ofInt (rz_e (rz_mkE σ len lw X Y T S H al (rz_exf σ np nw xp xb xv s j)) np b p)) ∧ (j = 0 ∨ υ.1 62 13 = nI (rz_sd s (nb * np))) := by
  have hW : rz_CW (rz_fw σ) nw τ := by
    have := hB.2.2.2.2.1.1
    unfold rz_CW at this ⊢
    rw [hf.1 10 (by omega), hf.1 26 (by omega), hf.1 27 (by omega), hf.1 28 (by omega)]
    exact this
  obtain ⟨υ, e, g1, g2, g3, g4, g5⟩ := rz_c_runb (E := rz_mkE σ len lw X Y T S H al (rz_exf σ np nw xp xb xv s j)) (xt := fun b p => if xp = p ∧ xb = b then xv else 0) (rz_CA_mk hB hf hc) (rz_Eok_mk hB (fun p hp => (hc p hp).2.1) (fun p hp => ⟨(hc p hp).2.2.2.2.1, (hc p hp).2.2.2.2.2.1⟩) (fun b p _ _ => rz_exf_in hB.2.2.2.2.1.1 hxv hj2 b p)) hW hj hj2 hs (fun b p hb hp => ⟨hxt b p hb hp, by split <;> omega⟩) (fun b p _ _ => rfl) h0
  refine ⟨υ, e, rz_ft.of hf (fun c hc => g1 c ?_), g1, g2, g3, g4, g5⟩
  simp only [List.mem_cons, List.not_mem_nil, or_false, not_or]
  omega
/-- the reference's wrongs with or without one more -/
def rz_fx (σ : ra_S) (nw xp xb : Nat) (xv : Int) (w : Nat) : Nat × Nat × Int := if w = nw then (xp, xb, xv) else rz_fw σ w
theorem rz_fx_sum (σ : ra_S) (nw xp xb : Nat) (xv : Int) (p b : Nat) : ∀ n, n ≤ nw → rz_wsum (rz_fx σ nw xp xb xv) p b n = rz_wsum (rz_fw σ) p b n
  | 0, _ => rfl
  | n + 1, h => by
    rw [rz_wsum, rz_wsum, rz_fx_sum σ nw xp xb xv p b n (by omega)]
    have : rz_fx σ nw xp xb xv n = rz_fw σ n := if_neg (by omega)
    rw [this]
theorem rz_goM {np nb nl nw : Nat} {len : Nat → Nat} {σ τ : ra_S} (hB : rz_base np nb nl nw len σ) {lw : Nat → Nat} {X Y T : Nat → Int32} {S H : Nat → Nat → Bool} {al : Bool} (hc : rz_fitM np nl lw X Y T S H al σ τ) {xp xb s j : Nat} {xv : Int} (hxv : -2000 ≤ xv ∧ xv ≤ 2000) (hj2 : j ≤ 200) (hs : s < 2147483648) (hW : (rz_MW (rz_fw σ) nw τ ∧ xv = 0) ∨ rz_MW (rz_fx σ nw xp xb xv) (nw + 1) τ) (h0 : rz_sw np s j 0 τ τ) :
    ∃ υ : ra_S, ra_C 190 [.ref 86] τ = ra_V υ ∧ (∀ c, c ≠ 102 → υ.1 c = τ.1 c) ∧ (∀ c, c ≠ 86 → υ.2 c = τ.2 c) ∧ (∀ b p, b < nb → p < np → rz_on τ p = true → υ.1 102 (8 * b + p) = Int32.ofInt (rz_e (rz_mkE σ len lw X Y T S H al (rz_exf σ np nw xp xb xv s j)) np b p)) ∧ rz_sw np s j (nb * np) τ υ := by
  have ok := rz_Eok_mk (T := T) (S := S) (H := H) (al := al) (ex := rz_exf σ np nw xp xb xv s j) hB (fun p hp => (hc.2.2.2.2.2 p hp).2.1) (fun p hp => ⟨(hc.2.2.2.2.2 p hp).2.2.2.2.2.1, (hc.2.2.2.2.2 p hp).2.2.2.2.2.2.1⟩) (fun b p _ _ => rz_exf_in hB.2.2.2.2.1.1 hxv hj2 b p)
  have MA := rz_MA_mk (ex := rz_exf σ np nw xp xb xv s j) hB hc
  rcases hW with ⟨hW, rfl⟩ | hW
  · refine rz_m_lay MA ok hW (fun b p _ _ => ?_) hs h0
    show rz_wsum (rz_fw σ) p b nw + (if xp = p ∧ xb = b then 0 else 0) + rz_jt s j (b * np + p) = _
    rw [show (if xp = p ∧ xb = b then (0 : Int) else 0) = 0 by split <;> rfl, Int.add_zero]
  · refine rz_m_lay MA ok hW (fun b p _ _ => ?_) hs h0
    show rz_wsum (rz_fw σ) p b nw + (if xp = p ∧ xb = b then xv else 0) + rz_jt s j (b * np + p) = _
    rw [rz_wsum, rz_fx_sum σ nw xp xb xv p b nw (Nat.le_refl _)]
    unfold rz_fx
    rw [if_pos rfl]
