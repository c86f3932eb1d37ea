-- ===== the class: laws asked by any number; written by wip/whole/gen28.py =====
def rz_lw (σ : ra_S) (nl : Nat) (a : Int32) (j : Nat) : Int32 := if 0 ≤ a.toInt ∧ a.toInt < nl then σ.1 13 (4 * a.toNatClampNeg + j) else 0
def rz_lh (σ : ra_S) (nl : Nat) (a : Int32) : Int32 := if 0 ≤ a.toInt ∧ a.toInt < nl then σ.1 14 a.toNatClampNeg else 0
def rz_la (σ : ra_S) (nl : Nat) (a : Int32) : Bool := decide (0 ≤ a.toInt ∧ a.toInt < nl) && decide (¬ σ.1 15 a.toNatClampNeg = 0)
theorem rz_c_lw {σ : ra_S} {nl : Nat} (hn : σ.1 11 0 = nI nl) (hb : nl ≤ 6) (a : Int32) {j : Nat} (hj : j < 4) : ra_C 18 [.ref 11, .int a, .int (nI j)] σ = ra_I (rz_lw σ nl a j) σ := by
  rw [e_18, rz_c_has hn hb, ra_kI]
  unfold rz_lw
  by_cases h : 0 ≤ a.toInt ∧ a.toInt < nl
  · obtain ⟨l, hl, rfl⟩ := rz_nat (by omega) h
    rw [if_pos h, if_pos h, if_neg (by decide), if_neg (nI_pos (by omega)), show (4 : Int32) = nI 4 from rfl, rz_il (by omega) hj, pk_mul, nI_add, rz_ig (by omega) (by omega), nI_clamp (by omega), nI_clamp (by omega), Nat.mul_comm l 4]
  · rw [if_neg h, if_neg h, if_pos rfl]
theorem rz_c_lh {σ : ra_S} {nl : Nat} (hn : σ.1 11 0 = nI nl) (hb : nl ≤ 6) (a : Int32) : ra_C 19 [.ref 11, .int a] σ = ra_I (rz_lh σ nl a) σ := by
  rw [e_19, rz_c_has hn hb, ra_kI]
  unfold rz_lh
  by_cases h : 0 ≤ a.toInt ∧ a.toInt < nl
  · rw [if_pos h, if_pos h, if_neg (by decide), if_pos (by omega)]
  · rw [if_neg h, if_neg h, if_pos rfl]
theorem rz_c_la {σ : ra_S} {nl : Nat} (hn : σ.1 11 0 = nI nl) (hb : nl ≤ 6) (a : Int32) : ra_C 20 [.ref 11, .int a] σ = ra_I (if rz_la σ nl a = true then 1 else 0) σ := by
  rw [e_20, rz_c_has hn hb, ra_kI]
  unfold rz_la
  by_cases h : 0 ≤ a.toInt ∧ a.toInt < nl
  · rw [if_pos h, if_neg (by decide), if_pos (by omega), decide_eq_true h, Bool.true_and]
    by_cases c : σ.1 15 a.toNatClampNeg = 0
    · rw [if_pos c, if_neg (by simp [c])]
    · rw [if_neg c, if_pos (by simp [c])]
  · rw [if_neg h, if_pos rfl, decide_eq_false h, Bool.false_and]; rfl
-- ===== weighUp =====
def rz_wv (σ : ra_S) (nl p j : Nat) : Int32 := if rz_bit (σ.1 66 p) j = true then 0 else rz_lw σ nl (σ.1 65 p) j
def rz_ld (σ : ra_S) (nl p : Nat) : Int32 := if rz_la σ nl (σ.1 65 p) = true then σ.1 21 p else 0
def rz_Wd (nl k : Nat) (σ τ : ra_S) : Prop := (∀ c, c ≠ 69 → c ≠ 70 → c ≠ 71 → τ.1 c = σ.1 c) ∧ τ.2 = σ.2 ∧ ∀ p, p < k → (∀ j, j < 4 → τ.1 69 (4 * p + j) = rz_wv σ nl p j) ∧ τ.1 70 p = rz_ld σ nl p ∧ τ.1 71 p = rz_lh σ nl (σ.1 65 p) - rz_ld σ nl p
set_option maxHeartbeats 2000000 in
theorem rz_c_weighUp {σ : ra_S} {nl : Nat} (hn : σ.1 11 0 = nI nl) (hb : nl ≤ 6) : ∃ τ : ra_S, ra_C 4 [.ref 62, .ref 10] σ = ra_V τ ∧ rz_Wd nl 8 σ τ := by
  have inner : ∀ k, k < 8 → ∀ d w, w + d = 4 → ∀ (τ : ra_S) (o5 : Option Value), rz_Wd nl k σ τ → (∀ j, j < w → τ.1 69 (4 * k + j) = rz_wv σ nl k j) → ∃ (τ' : ra_S) (o5' : Option Value), ra_D (ra_lay, none, 99999, ra_m4) 16 [some (.ref 62), some (.ref 10), some (.ref 11), some (.int (nI k)), some (.int (nI w)), o5] [] τ = ra_D (ra_lay, none, 99999, ra_m4) 16 [some (.ref 62), some (.ref 10), some (.ref 11), some (.int (nI k)), some (.int (nI 4)), o5'] [] τ' ∧ rz_Wd nl k σ τ' ∧ (∀ j, j < 4 → τ'.1 69 (4 * k + j) = rz_wv σ nl k j) := by
    intro k hk d
    induction d with
    | zero => intro w hw τ o5 h1 h2; have : w = 4 := by omega
              subst this; exact ⟨τ, o5, rfl, h1, h2⟩
    | succ d ih =>
      intro w hw τ o5 h1 h2
      obtain ⟨g1, g2, g3⟩ := id h1
      have step : ∀ (x : Int32) (o : Option Value), x = rz_wv σ nl k w → ∃ (τ' : ra_S) (o5' : Option Value), ra_D (ra_lay, none, 99999, ra_m4) 16 [some (.ref 62), some (.ref 10), some (.ref 11), some (.int (nI k)), some (.int (nI (w + 1))), o] [] (ra_ui τ 69 (4 * k + w) x) = ra_D (ra_lay, none, 99999, ra_m4) 16 [some (.ref 62), some (.ref 10), some (.ref 11), some (.int (nI k)), some (.int (nI 4)), o5'] [] τ' ∧ rz_Wd nl k σ τ' ∧ (∀ j, j < 4 → τ'.1 69 (4 * k + j) = rz_wv σ nl k j) := by
        intro x o hx
        refine ih (w + 1) (by omega) _ o ⟨fun c q1 q2 q3 => by rw [ra_ui_1 c q1]; exact g1 c q1 q2 q3, g2, fun p hp => ?_⟩ (fun j hj => ?_)
        · obtain ⟨i1, i2, i3⟩ := g3 p hp
          refine ⟨fun j hj => ?_, by rw [ra_ui_1 70 (by decide)]; exact i2, by rw [ra_ui_1 71 (by decide)]; exact i3⟩
          rw [ra_ui_get, if_neg (fun q => by have := q.2; omega)]; exact i1 j hj
        · rw [ra_ui_get]
          by_cases y : j = w
          · subst y; rw [if_pos ⟨rfl, rfl⟩]; exact hx
          · rw [if_neg (fun q => by have := q.2; omega)]; exact h2 j (by omega)
      have ix : nI k * (4 : Int32) + nI w = nI (4 * k + w) := by rw [show (4 : Int32) = nI 4 from rfl, pk_mul, nI_add, Nat.mul_comm]
      have e66 : τ.1 66 = σ.1 66 := g1 66 (by decide) (by decide) (by decide)
      have e65 : τ.1 65 = σ.1 65 := g1 65 (by decide) (by decide) (by decide)
      have e13 : τ.1 13 = σ.1 13 := g1 13 (by decide) (by decide) (by decide)
      have e11 : τ.1 11 = σ.1 11 := g1 11 (by decide) (by decide) (by decide)
      rw [e_4_16, show (4 : Int32) = nI 4 from rfl, rz_il (by omega) (by omega), rz_ig (by omega) (by omega), nI_clamp (by omega), e66]
      by_cases b : rz_bit (σ.1 66 k) w = true
      · have b' := of_decide_eq_true b
        rw [if_pos b', e_4_42, if_neg (by decide), ix, rz_ig (by omega) (by omega), nI_clamp (by omega), nI_1]
        exact step 0 _ (by unfold rz_wv; rw [if_pos b])
      · have b' : ¬ ((σ.1 66 k >>> (nI w &&& 31)) &&& (1 : Int32) = 1) := fun q => b (decide_eq_true q)
        rw [if_neg b', e_4_42, if_pos rfl, rz_ig (by omega) (by omega), nI_clamp (by omega), rz_c_lw (by rw [e11]; exact hn) hb _ (by omega), ra_kI, ix, rz_ig (by omega) (by omega), nI_clamp (by omega), nI_1]
        exact step _ _ (by unfold rz_wv rz_lw; rw [if_neg b, e65, e13])
  have outer : ∀ d k, k + d = 8 → ∀ (τ : ra_S) (o4 o5 : Option Value), rz_Wd nl k σ τ → ∃ τ' : ra_S, ra_D (ra_lay, none, 99999, ra_m4) 7 [some (.ref 62), some (.ref 10), some (.ref 11), some (.int (nI k)), o4, o5] [] τ = ra_V τ' ∧ rz_Wd nl 8 σ τ' := by
    intro d
    induction d with
    | zero => intro k hk τ o4 o5 h1; have : k = 8 := by omega
              subst this; rw [e_4_7, if_neg (by decide)]; exact ⟨τ, rfl, h1⟩
    | succ d ih =>
      intro k hk τ o4 o5 h1
      obtain ⟨τ1, o5', e1, h2, h3⟩ := inner k (by omega) 4 0 (by omega) τ o5 h1 (fun j hj => by omega)
      obtain ⟨g1, g2, g3⟩ := id h2
      have e65 : τ1.1 65 = σ.1 65 := g1 65 (by decide) (by decide) (by decide)
      have e14 : τ1.1 14 = σ.1 14 := g1 14 (by decide) (by decide) (by decide)
      have e15 : τ1.1 15 = σ.1 15 := g1 15 (by decide) (by decide) (by decide)
      have e21 : τ1.1 21 = σ.1 21 := g1 21 (by decide) (by decide) (by decide)
      have e11 : τ1.1 11 = σ.1 11 := g1 11 (by decide) (by decide) (by decide)
      have la : rz_la τ1 nl (τ1.1 65 k) = rz_la σ nl (σ.1 65 k) := by unfold rz_la; rw [e65, e15]
      rw [e_4_7, show (8 : Int32) = nI 8 from rfl, rz_il (by omega) (by omega), show (0 : Int32) = nI 0 from rfl, e1, e_4_16, if_neg (by decide), rz_ig (by omega) (by omega), nI_clamp (by omega), rz_c_la (by rw [e11]; exact hn) hb, ra_kI, la]
      have fin : ∀ x : Int32, x = rz_ld σ nl k → ∃ τ' : ra_S, ra_D (ra_lay, none, 99999, ra_m4) 113 [some (.ref 62), some (.ref 10), some (.ref 11), some (.int (nI k)), some (.int (nI 4)), o5'] [.int x, .int (nI k), .ref 70] τ1 = ra_V τ' ∧ rz_Wd nl 8 σ τ' := by
        intro x hx
        rw [e_4_113, rz_ig (by omega) (by omega), rz_ig (by omega) (by omega), nI_clamp (by omega), rz_c_lh (σ := ra_ui τ1 70 k x) (by rw [ra_ui_1 11 (by decide), e11]; exact hn) hb, ra_kI, rz_ig (by omega) (by omega), rz_ig (by omega) (by omega), nI_1, ra_ui_get, if_pos ⟨rfl, rfl⟩]
        refine ih (k + 1) (by omega) _ _ _ ⟨fun c q1 q2 q3 => by rw [ra_ui_1 c q3, ra_ui_1 c q2]; exact g1 c q1 q2 q3, g2, fun p hp => ?_⟩
        by_cases y : p = k
        · subst y
          refine ⟨fun j hj => ?_, ?_, ?_⟩
          · rw [ra_ui_1 69 (by decide), ra_ui_1 69 (by decide)]; exact h3 j hj
          · rw [ra_ui_1 70 (by decide), ra_ui_get, if_pos ⟨rfl, rfl⟩]; exact hx
          · rw [ra_ui_get, if_pos ⟨rfl, rfl⟩, hx]
            unfold rz_lh
            rw [ra_ui_1 14 (by decide), e14, e65]
        · obtain ⟨i1, i2, i3⟩ := g3 p (by omega)
          refine ⟨fun j hj => ?_, ?_, ?_⟩
          · rw [ra_ui_1 69 (by decide), ra_ui_1 69 (by decide)]; exact i1 j hj
          · rw [ra_ui_1 70 (by decide), ra_ui_get, if_neg (fun q => y q.2)]; exact i2
          · rw [ra_ui_get, if_neg (fun q => y q.2), ra_ui_1 71 (by decide)]; exact i3
      by_cases b : rz_la σ nl (σ.1 65 k) = true
      · rw [if_pos b, if_neg (by decide), rz_ig (by omega) (by omega), e21]
        exact fin _ (by unfold rz_ld; rw [if_pos b])
      · rw [if_neg b, if_pos rfl]
        exact fin _ (by unfold rz_ld; rw [if_neg b])
  obtain ⟨τ, e, h⟩ := outer 8 0 (by omega) σ none none ⟨fun _ _ _ _ => rfl, rfl, fun p hp => by omega⟩
  exact ⟨τ, by rw [e_4]; exact e, h⟩
-- ===== ways between any two places =====
theorem rz_wb_ex (x y : Int32) : ∃ v : Int32, ∀ σ : ra_S, ra_C 138 [.int x, .int y] σ = ra_I v σ := by
  have loop : ∀ k, k ≤ 8 → ∀ (s r : Int32), ∃ v : Int32, ∀ (σ : ra_S) (o0 o1 : Option Value), ra_D (ra_lay, none, 99999, ra_m138) 18 [o0, o1, some (.int s), some (.int r), some (.int (nI (2 ^ k / 2)))] [] σ = ra_I v σ := by
    intro k
    induction k with
    | zero => intro _ s r; exact ⟨r, fun σ o0 o1 => by rw [e_138_18, if_neg (by decide)]⟩
    | succ k ih =>
      intro hk s r
      have hp : 0 < 2 ^ k := Nat.two_pow_pos k
      have hq : 2 ^ k ≤ 256 := by
        have := Nat.pow_le_pow_right (n := 2) (by decide) (show k ≤ 8 by omega)
        omega
      have e : 2 ^ (k + 1) / 2 = 2 ^ k := by rw [Nat.pow_succ]; omega
      have d : nI (2 ^ k) / (2 : Int32) = nI (2 ^ k / 2) := pk_div (a := 2 ^ k) (d := 2) (by omega) (by omega) (by omega)
      by_cases c : s < (r + nI (2 ^ k)) * (r + nI (2 ^ k))
      · obtain ⟨v, hv⟩ := ih (by omega) s r
        exact ⟨v, fun σ o0 o1 => by rw [e, e_138_18, if_pos (show (0 : Int32) < nI (2 ^ k) from nI_lt (a := 0) hp (by omega)), if_pos c, d]; exact hv σ o0 o1⟩
      · obtain ⟨v, hv⟩ := ih (by omega) s (r + nI (2 ^ k))
        exact ⟨v, fun σ o0 o1 => by rw [e, e_138_18, if_pos (show (0 : Int32) < nI (2 ^ k) from nI_lt (a := 0) hp (by omega)), if_neg c, d]; exact hv σ o0 o1⟩
  obtain ⟨v, hv⟩ := loop 8 (by omega) ((9 : Int32) * ((x * x) + (y * y))) 0
  exact ⟨v, fun σ => by rw [e_138]; exact hv σ _ _⟩
noncomputable def rz_wb (x y : Int32) : Int32 := Classical.choose (rz_wb_ex x y)
theorem rz_c_wb (σ : ra_S) (x y : Int32) : ra_C 138 [.int x, .int y] σ = ra_I (rz_wb x y) σ := Classical.choose_spec (rz_wb_ex x y) σ
theorem rz_wb_wyf {x y x2 y2 : Int32} (h1 : rz_in x 0 40) (h2 : rz_in y 0 40) (h3 : rz_in x2 0 40) (h4 : rz_in y2 0 40) : rz_wb (x - x2) (y - y2) = nI (rz_wyf x y x2 y2) := by
  have a := rz_c_wb (fun _ _ => 0, fun _ _ => 0) (x - x2) (y - y2)
  rw [rz_c_wyf _ h1 h2 h3 h4] at a
  injection a with a
  injection a with a _
  injection a with a
  injection a with a
  injection a with a
  exact a.symm
-- ===== small methods of cast and score =====
theorem rz_c_cw {σ : ra_S} {p j : Nat} (hp : p < 8) (hj : j < 4) : ra_C 5 [.ref 62, .int (nI p), .int (nI j)] σ = ra_I (σ.1 69 (4 * p + j)) σ := by
  rw [e_5, e_9, if_neg (nI_pos (by omega)), show (8 : Int32) = nI 8 from rfl, rz_il (by omega) hp, ra_kI, if_neg (by decide), if_neg (nI_pos (by omega)), show (4 : Int32) = nI 4 from rfl, rz_il (by omega) hj, e_5_21, if_neg (by decide), show (4 : Int32) = nI 4 from rfl, pk_mul, nI_add, rz_ig (by omega) (by omega), nI_clamp (by omega), Nat.mul_comm p 4]
/-- the class's wrongs -/
def rz_CW (f : Nat → Nat × Nat × Int) (nw : Nat) (τ : ra_S) : Prop := τ.1 10 7 = nI nw ∧ nw ≤ 6 ∧ ∀ w, w < nw → τ.1 26 w = nI (f w).1 ∧ τ.1 27 w = nI (f w).2.1 ∧ τ.1 28 w = Int32.ofInt (f w).2.2 ∧ (f w).1 < 100 ∧ (f w).2.1 < 100 ∧ -2000 ≤ (f w).2.2 ∧ (f w).2.2 ≤ 2000
theorem rz_c_wr {f : Nat → Nat × Nat × Int} {nw : Nat} {τ : ra_S} (h : rz_CW f nw τ) {b p : Nat} (hb : b < 100) (hp : p < 100) : ra_C 61 [.ref 10, .int (nI p), .int (nI b)] τ = ra_I (Int32.ofInt (rz_wsum f p b nw)) τ := by
  obtain ⟨h1, h2, hf⟩ := h
  have loop : ∀ d k, k + d = nw → ra_D (ra_lay, none, 99999, ra_m61) 5 [some (.ref 10), some (.int (nI p)), some (.int (nI b)), some (.int (Int32.ofInt (rz_wsum f p b k))), some (.int (nI k))] [] τ = ra_I (Int32.ofInt (rz_wsum f p b nw)) τ := by
    intro d
    induction d with
    | zero => intro k hk; have : k = nw := by omega
              subst this; rw [e_61_5, h1, rz_inl (by omega) (by omega)]
    | succ d ih =>
      intro k hk
      obtain ⟨f1, f2, f3, f4, f5, f6⟩ := hf k (by omega)
      have i := ih (k + 1) (by omega)
      rw [rz_wsum] at i
      rw [e_61_5, h1, rz_il (by omega) (by omega), show (6 : Int32) = nI 6 from rfl, rz_il (by omega) (by omega), rz_ig (by omega) (by omega), rz_ig (by omega) (by omega), rz_ig (by omega) (by omega), nI_clamp (by omega), f1, f2, f3, nI_1, ← Int32.ofInt_add]
      by_cases z1 : (f k).1 = p
      · rw [rz_ie z1]
        by_cases z2 : (f k).2.1 = b
        · rw [rz_ie z2]
          rw [if_pos ⟨z1, z2⟩] at i
          exact i
        · rw [rz_ine (by omega) (by omega) z2]
          rw [if_neg (fun q => z2 q.2), Int.add_zero] at i
          exact i
      · rw [rz_ine (by omega) (by omega) z1]
        rw [if_neg (fun q => z1 q.1), Int.add_zero] at i
        exact i
  rw [e_61]
  exact loop nw 0 (by omega)
theorem rz_nIo (n : Nat) : nI n = Int32.ofInt (n : Int) := rfl
/-- chance in the class -/
theorem rz_c_draw {σ : ra_S} {s j k : Nat} (hj : σ.1 62 12 = nI j) (hj2 : j ≤ 200) (hs : s < 2147483648) (hk : j = 0 ∨ σ.1 62 13 = nI (rz_sd s k)) : ∃ τ : ra_S, ra_C 8 [.ref 62] σ = ra_I (Int32.ofInt (rz_jt s j k)) τ ∧ (∀ c, c ≠ 62 → τ.1 c = σ.1 c) ∧ (∀ i, i ≠ 13 → τ.1 62 i = σ.1 62 i) ∧ τ.2 = σ.2 ∧ (j = 0 ∨ τ.1 62 13 = nI (rz_sd s (k + 1))) := by
  rw [e_8, hj]
  by_cases z : j = 0
  · subst z
    rw [if_neg (by decide), rz_jt0]
    exact ⟨σ, rfl, fun _ _ => rfl, fun _ _ => rfl, rfl, Or.inl rfl⟩
  · rcases hk with hk | hk
    · exact absurd hk z
    · have sl := rz_sd_lt hs k
      have sl2 := rz_sd_lt hs (k + 1)
      have e1 : (2 : Int32) * nI j + (1 : Int32) = nI (2 * j + 1) := by rw [show (2 : Int32) * nI j = nI (2 * j) from pk_mul 2 j, nI_1]
      rw [if_pos (show (0 : Int32) < nI j from nI_lt (a := 0) (by omega) (by omega)), e1, if_neg (nI_ne0 (by omega) (by omega)), hk, nI_l (by omega), rz_lcg sl, lN_i]
      rw [show (rz_sd s k * 1103515245 + 12345) % 2147483648 = rz_sd s (k + 1) from rfl, show (65536 : Int32) = nI 65536 from rfl, pk_div (by omega) (by omega) (by omega), pk_rem (by omega) (by omega) (by omega)]
      refine ⟨ra_ui σ 62 13 (nI (rz_sd s (k + 1))), ?_, fun c hc => ra_ui_1 c hc, fun i hi => ?_, rfl, Or.inr ?_⟩
      · unfold rz_jt
        rw [rz_nIo, rz_nIo, ← Int32.ofInt_sub]
      · rw [ra_ui_get, if_neg (fun q => hi q.2)]
      · rw [ra_ui_get, if_pos ⟨rfl, rfl⟩]
/-- the class's store when all is weighed up and measured -/
def rz_CB (wy : Nat) (E : rz_En) (np nb : Nat) (τ : ra_S) : Prop := τ.1 16 0 = nI np ∧ τ.1 10 5 = nI nb ∧ np ≤ 8 ∧ nb ≤ 40 ∧ (∀ p, p < np → (∀ j, j < 4 → τ.1 69 (4 * p + j) = Int32.ofInt (rz_w E p j)) ∧ τ.1 71 p = Int32.ofInt (rz_hb E p) ∧ ∃ ld : Int, τ.1 70 p = Int32.ofInt ld ∧ 0 ≤ ld ∧ ld ≤ 300 ∧ ∀ q, q < np → ∃ w : Nat, w < 256 ∧ τ.1 wy (8 * p + q) = nI w ∧ rz_dl E p q = (τ.1 21 q).toInt + (w : Int) - ld) ∧ (∀ q, q < np → rz_in (τ.1 21 q) 0 300) ∧ (∀ p q, p < np → q < np → rz_see E p q = rz_bit (τ.1 67 p) q ∧ rz_hear E p q = rz_bit (τ.1 68 p) q) ∧ ∀ n, n ≤ nb → τ.1 25 n = Int32.ofInt (rz_bg E n)
theorem rz_CB_eq {wy : Nat} {E : rz_En} {np nb : Nat} {σ τ : ra_S} (h16 : τ.1 16 = σ.1 16) (h10 : τ.1 10 = σ.1 10) (h69 : τ.1 69 = σ.1 69) (h71 : τ.1 71 = σ.1 71) (h70 : τ.1 70 = σ.1 70) (hwy : τ.1 wy = σ.1 wy) (h21 : τ.1 21 = σ.1 21) (h67 : τ.1 67 = σ.1 67) (h68 : τ.1 68 = σ.1 68) (h25 : τ.1 25 = σ.1 25) (h : rz_CB wy E np nb σ) : rz_CB wy E np nb τ := by
  unfold rz_CB at h ⊢
  simp only [h16, h10, h69, h71, h70, hwy, h21, h67, h68, h25]
  exact h
/-- the class's cast before it is weighed up -/
def rz_cah (σ : ra_S) (p l : Nat) : Int := if σ.1 15 l = 0 then 0 else (σ.1 21 p).toInt
def rz_CA (E : rz_En) (np nb nl : Nat) (σ : ra_S) : Prop := σ.1 16 0 = nI np ∧ σ.1 10 5 = nI nb ∧ np ≤ 8 ∧ nb ≤ 40 ∧ (σ.1 11 0 = nI nl ∧ nl ≤ 6) ∧ (∀ p, p < np → ∃ l, l < nl ∧ σ.1 65 p = nI l ∧ (∀ j, j < 4 → rz_w E p j = if rz_bit (σ.1 66 p) j = true then 0 else (σ.1 13 (4 * l + j)).toInt) ∧ rz_hb E p = (σ.1 14 l).toInt - rz_cah σ p l ∧ rz_in (σ.1 63 p) 0 40 ∧ rz_in (σ.1 64 p) 0 40 ∧ ∀ q, q < np → rz_dl E p q = (σ.1 21 q).toInt + (rz_wyf (σ.1 63 p) (σ.1 64 p) (σ.1 63 q) (σ.1 64 q) : Int) - rz_cah σ p l) ∧ (∀ q, q < np → rz_in (σ.1 21 q) 0 300) ∧ (∀ p q, p < np → q < np → rz_see E p q = rz_bit (σ.1 67 p) q ∧ rz_hear E p q = rz_bit (σ.1 68 p) q) ∧ ∀ n, n ≤ nb → σ.1 25 n = Int32.ofInt (rz_bg E n)
-- ===== play =====
theorem rz_c_ways {σ : ra_S} : ∃ τ : ra_S, ra_C 43 [.ref 72, .ref 62] σ = ra_V τ ∧ (∀ c, c ≠ 74 → τ.1 c = σ.1 c) ∧ τ.2 = σ.2 ∧ ∀ p q, p < 8 → q < 8 → τ.1 74 (8 * p + q) = rz_wb (σ.1 63 p - σ.1 63 q) (σ.1 64 p - σ.1 64 q) := by
  have inner : ∀ k, k < 8 → ∀ d w, w + d = 8 → ∀ τ : ra_S, (∀ c, c ≠ 74 → τ.1 c = σ.1 c) → τ.2 = σ.2 → (∀ p q, q < 8 → (p < k ∨ p = k ∧ q < w) → τ.1 74 (8 * p + q) = rz_wb (σ.1 63 p - σ.1 63 q) (σ.1 64 p - σ.1 64 q)) → ∃ (τ' : ra_S), ra_D (ra_lay, none, 99999, ra_m43) 10 [some (.ref 72), some (.ref 62), some (.int (nI k)), some (.int (nI w))] [] τ = ra_D (ra_lay, none, 99999, ra_m43) 2 [some (.ref 72), some (.ref 62), some (.int (nI (k + 1))), some (.int (nI 8))] [] τ' ∧ (∀ c, c ≠ 74 → τ'.1 c = σ.1 c) ∧ τ'.2 = σ.2 ∧ (∀ p q, q < 8 → (p < k + 1) → τ'.1 74 (8 * p + q) = rz_wb (σ.1 63 p - σ.1 63 q) (σ.1 64 p - σ.1 64 q)) := by
    intro k hk d
    induction d with
    | zero => intro w hw τ h1 h2 h3; have : w = 8 := by omega
              subst this
              rw [e_43_10, if_neg (by decide), nI_1]
              exact ⟨τ, rfl, h1, h2, fun p q g1 g2 => h3 p q g1 (by omega)⟩
    | succ d ih =>
      intro w hw τ h1 h2 h3
      rw [e_43_10, show (8 : Int32) = nI 8 from rfl, rz_il (by omega) (by omega), rz_ig (by omega) (by omega), rz_ig (by omega) (by omega), rz_ig (by omega) (by omega), rz_ig (by omega) (by omega), rz_c_wb, ra_kI, pk_mul, nI_add, rz_ig (by omega) (by omega), nI_clamp (by omega), nI_clamp (by omega), nI_clamp (by omega), nI_1]
      refine ih (w + 1) (by omega) _ (fun c hc => by rw [ra_ui_1 c hc]; exact h1 c hc) h2 (fun p q g1 g2 => ?_)
      rw [ra_ui_get, h1 63 (by decide), h1 64 (by decide)]
      by_cases y : 8 * p + q = k * 8 + w
      · have : p = k := by omega
        have : q = w := by omega
        subst p q
        rw [if_pos ⟨rfl, y⟩]
      · rw [if_neg (fun z => y z.2)]
        exact h3 p q g1 (by omega)
  have outer : ∀ d k, k + d = 8 → ∀ (τ : ra_S) (o3 : Option Value), (∀ c, c ≠ 74 → τ.1 c = σ.1 c) → τ.2 = σ.2 → (∀ p q, q < 8 → p < k → τ.1 74 (8 * p + q) = rz_wb (σ.1 63 p - σ.1 63 q) (σ.1 64 p - σ.1 64 q)) → ∃ τ' : ra_S, ra_D (ra_lay, none, 99999, ra_m43) 2 [some (.ref 72), some (.ref 62), some (.int (nI k)), o3] [] τ = ra_V τ' ∧ (∀ c, c ≠ 74 → τ'.1 c = σ.1 c) ∧ τ'.2 = σ.2 ∧ (∀ p q, q < 8 → p < 8 → τ'.1 74 (8 * p + q) = rz_wb (σ.1 63 p - σ.1 63 q) (σ.1 64 p - σ.1 64 q)) := by
    intro d
    induction d with
    | zero => intro k hk τ o3 h1 h2 h3; have : k = 8 := by omega
              subst this; rw [e_43_2, if_neg (by decide)]; exact ⟨τ, rfl, h1, h2, h3⟩
    | succ d ih =>
      intro k hk τ o3 h1 h2 h3
      obtain ⟨τ', e, i1, i2, i3⟩ := inner k (by omega) 8 0 (by omega) τ h1 h2 (fun p q g1 g2 => h3 p q g1 (by omega))
      rw [e_43_2, show (8 : Int32) = nI 8 from rfl, rz_il (by omega) (by omega), show (0 : Int32) = nI 0 from rfl, e]
      exact ih (k + 1) (by omega) τ' _ i1 i2 i3
  obtain ⟨τ, e, i1, i2, i3⟩ := outer 8 0 (by omega) σ none (fun _ _ => rfl) rfl (fun p q _ g => by omega)
  exact ⟨τ, by rw [e_43]; exact e, i1, i2, fun p q g1 g2 => i3 p q g2 g1⟩
theorem rz_c_at {σ : ra_S} {p b : Nat} (hp : p < 8) (hb : b < 40) : ra_C 47 [.ref 72, .int (nI p), .int (nI b)] σ = ra_I (σ.1 73 (8 * b + p)) σ := by
  rw [e_47, if_neg (nI_pos (by omega)), show (8 : Int32) = nI 8 from rfl, rz_il (by omega) hp, if_neg (nI_pos (by omega)), show (40 : Int32) = nI 40 from rfl, rz_il (by omega) hb, pk_mul, nI_add, rz_ig (by omega) (by omega), nI_clamp (by omega), Nat.mul_comm b 8]
theorem rz_c_gap {E : rz_En} {τ : ra_S} {p b : Nat} (hp : p < 8) (hb1 : 1 ≤ b) (hb : b < 40) {r1 r2 : Nat → Int} (i1 : ∀ q, -1000000000 ≤ r1 q ∧ r1 q ≤ 1000000000) (i2 : ∀ q, -1000000000 ≤ r2 q ∧ r2 q ≤ 1000000000) (h25 : τ.1 25 1 = Int32.ofInt (rz_bg E 1)) (hbg : 0 ≤ rz_bg E 1 ∧ rz_bg E 1 ≤ 10000000) (h1p : τ.1 73 (8 * (b - 1) + p) = Int32.ofInt (r1 p)) (h2 : b ≠ 1 → τ.1 73 (8 * (b - 2) + p) = Int32.ofInt (r2 p)) : ra_C 46 [.ref 72, .ref 10, .int (nI p), .int (nI b)] τ = ra_J (rz_L (rz_gap E b r1 r2 p)) τ := by
  have s1 : nI b - (1 : Int32) = nI (b - 1) := pk_sub (a := b) (b := 1) hb1
  rw [e_46]
  unfold rz_gap
  by_cases z : b = 1
  · subst z
    rw [if_neg (by decide), if_pos rfl, h25, rz_oL (by omega)]
  · have s2 : nI b - (2 : Int32) = nI (b - 2) := pk_sub (a := b) (b := 2) (by omega)
    rw [if_pos (show (1 : Int32) < nI b from nI_lt (a := 1) (b := b) (by omega) (by omega)), if_neg z, s1, s2, rz_c_at hp (by omega), ra_kI, rz_c_at hp (by omega), ra_kI, h1p, h2 z, rz_oL (i1 p), rz_oL (i2 p), rz_L_sub]
set_option maxHeartbeats 4000000 in
theorem rz_c_wloop {E : rz_En} {np nb b p : Nat} {τ : ra_S} (h : rz_CB 74 E np nb τ) (ok : rz_Eok E np nb) (hb1 : 1 ≤ b) (hb : b < nb) (hp : p < np) {r1 r2 : Nat → Int} (i1 : ∀ q, -1000000000 ≤ r1 q ∧ r1 q ≤ 1000000000) (hg : -2000000000 ≤ rz_gap E b r1 r2 p ∧ rz_gap E b r1 r2 p ≤ 2000000000) (h1 : ∀ q, q < np → τ.1 73 (8 * (b - 1) + q) = Int32.ofInt (r1 q)) :
    ∀ d k, k + d = np → ∀ (υ : ra_S) (o5 o6 o14 o15 o16 : Option Value), υ.1 = τ.1 → (∀ c, c ≠ 72 → υ.2 c = τ.2 c) → υ.2 72 4 = rz_L (rz_fold E b (rz_gap E b r1 r2 p) r1 p k).1 → υ.2 72 5 = rz_L (rz_fold E b (rz_gap E b r1 r2 p) r1 p k).2 → ∃ υ' : ra_S, ra_D (ra_lay, none, 99999, ra_m44) 78 [some (.ref 72), some (.ref 10), some (.ref 62), some (.int (nI p)), some (.int (nI b)), o5, o6, some (.long (rz_L (rz_gap E b r1 r2 p))), none, some (.long (rz_L (r1 p + rz_gap E b r1 r2 p))), none, some (.int (Int32.ofInt (rz_w E p 2))), some (.int (Int32.ofInt (rz_w E p 3))), some (.int (nI k)), o14, o15, o16] [] υ = ra_J (rz_L (rz_mid E np b r1 r2 p)) υ' ∧ υ'.1 = τ.1 ∧ ∀ c, c ≠ 72 → υ'.2 c = τ.2 c := by
  obtain ⟨a1, a2, a3, a4, a5, a6, a7, a8⟩ := id h
  obtain ⟨mw, mh, ld, ml, l0, l3, md⟩ := a5 p hp
  have w2 := ok.1 p hp 2 (by omega)
  have w3 := ok.1 p hp 3 (by omega)
  have fi := rz_fold_in ok (b := b) (by omega) hp hg i1
  have s1 : nI b - (1 : Int32) = nI (b - 1) := pk_sub (a := b) (b := 1) hb1
  intro d
  induction d with
  | zero =>
    intro k hk υ o5 o6 o14 o15 o16 u1 u2 u4 u5
    have : k = np := by omega
    subst this
    obtain ⟨f1, f2, f3, f4⟩ := fi k (Nat.le_refl _)
    rw [e_44_78, u1, a1, rz_inl (by omega) (by omega), e_44_202, u4, u5]
    unfold rz_mid
    by_cases z : (rz_fold E b (rz_gap E b r1 r2 p) r1 p k).2 = 0
    · rw [if_pos ((rz_LZ (by omega) (by omega)).mpr z), if_pos z]
      exact ⟨υ, rfl, u1, u2⟩
    · rw [if_neg (fun y => z ((rz_LZ (by omega) (by omega)).mp y)), if_neg z, rz_c_div υ (by omega) (by omega) (by omega) (by omega), ra_kJ]
      exact ⟨υ, rfl, u1, u2⟩
  | succ d ih =>
    intro k hk υ o5 o6 o14 o15 o16 u1 u2 u4 u5
    have hk' : k < np := by omega
    obtain ⟨w, wl, wy, dl⟩ := md k hk'
    obtain ⟨es, eh⟩ := a7 p k hp hk'
    have sp := a6 k hk'
    have ik := i1 k
    have ih' := ih (k + 1) (by omega)
    rw [rz_fold] at ih'
    dsimp only at ih'
    have hear : ∀ (υ : ra_S) (o14 o15 o16 : Option Value), υ.1 = τ.1 → (∀ c, c ≠ 72 → υ.2 c = τ.2 c) → υ.2 72 4 = rz_L ((rz_fold E b (rz_gap E b r1 r2 p) r1 p k).1 + (if rz_see E p k then rz_w E p 2 else 0) * (r1 k + rz_gap E b r1 r2 p)) → υ.2 72 5 = rz_L ((rz_fold E b (rz_gap E b r1 r2 p) r1 p k).2 + (if rz_see E p k then rz_w E p 2 else 0)) → ∃ υ' : ra_S, ra_D (ra_lay, none, 99999, ra_m44) 136 [some (.ref 72), some (.ref 10), some (.ref 62), some (.int (nI p)), some (.int (nI b)), o5, o6, some (.long (rz_L (rz_gap E b r1 r2 p))), none, some (.long (rz_L (r1 p + rz_gap E b r1 r2 p))), none, some (.int (Int32.ofInt (rz_w E p 2))), some (.int (Int32.ofInt (rz_w E p 3))), some (.int (nI k)), some (.long (rz_L (r1 k + rz_gap E b r1 r2 p))), none, o16] [] υ = ra_J (rz_L (rz_mid E np b r1 r2 p)) υ' ∧ υ'.1 = τ.1 ∧ ∀ c, c ≠ 72 → υ'.2 c = τ.2 c := by
      intro υ o14 o15 o16 u1 u2 u4 u5
      rw [e_44_136, rz_ig (by omega) (by omega), nI_clamp (show p < 2 ^ 31 by omega), u1]
      by_cases z : rz_bit (τ.1 68 p) k = true
      · have z' := of_decide_eq_true z
        rw [if_pos z', rz_ig (by omega) (by omega), show (8 : Int32) = nI 8 from rfl, pk_mul, nI_add, rz_ig (by omega) (by omega), rz_ig (by omega) (by omega), e_45, ra_kV, nI_clamp (show k < 2 ^ 31 by omega), nI_clamp (show p * 8 + k < 2 ^ 31 by omega), Nat.mul_comm p 8, wy, ml, nI_1]
        refine ih' _ _ _ _ _ _ u1 (fun c hc => by rw [ra_ul_2 c hc, ra_ul_2 c hc]; exact u2 c hc) ?_ ?_
        · rw [eh, if_pos z, ra_ul_get, if_neg (by decide), ra_ul_get, if_pos ⟨rfl, rfl⟩, u4, rz_wL w3, rz_oL (show -1000000000 ≤ ld ∧ ld ≤ 1000000000 by omega), rz_32L, show (τ.1 21 k + nI w).toInt = (τ.1 21 k).toInt + (w : Int) by have nw := nI_toInt (n := w) (by omega); rw [rz_addI (by have := sp.1; omega) (by have := sp.2; omega), nw], rz_L_add, rz_L_sub, rz_L_mul, rz_L_add, show r1 k + rz_gap E b r1 r2 p + ((τ.1 21 k).toInt + (w : Int)) - ld = r1 k + rz_gap E b r1 r2 p + rz_dl E p k by rw [dl]; omega]
        · rw [eh, if_pos z, ra_ul_get, if_pos ⟨rfl, rfl⟩, u5, rz_wL w3, rz_L_add]
      · have z' : ¬ ((τ.1 68 p >>> (nI k &&& 31)) &&& (1 : Int32) = 1) := fun q => z (decide_eq_true q)
        rw [if_neg z', nI_1]
        refine ih' _ _ _ _ _ _ u1 u2 ?_ ?_
        · rw [eh, if_neg z, Int.zero_mul, Int.add_zero]; exact u4
        · rw [eh, if_neg z, Int.add_zero]; exact u5
    rw [e_44_78, u1, a1, rz_il (by omega) hk', show (8 : Int32) = nI 8 from rfl, rz_il (by omega) (by omega), s1, rz_c_at (by omega) (by omega), ra_kI, rz_ig (by omega) (by omega), nI_clamp (show p < 2 ^ 31 by omega), u1, h1 k hk', rz_oL ik, rz_L_add]
    by_cases z : rz_bit (τ.1 67 p) k = true
    · have z' := of_decide_eq_true z
      rw [if_pos z', e_45, ra_kV]
      refine hear _ none none _ u1 (fun c hc => by rw [ra_ul_2 c hc, ra_ul_2 c hc]; exact u2 c hc) ?_ ?_
      · rw [es, if_pos z, ra_ul_get, if_neg (by decide), ra_ul_get, if_pos ⟨rfl, rfl⟩, u4, rz_wL w2, rz_L_mul, rz_L_add]
      · rw [es, if_pos z, ra_ul_get, if_pos ⟨rfl, rfl⟩, u5, rz_wL w2, rz_L_add]
    · have z' : ¬ ((τ.1 67 p >>> (nI k &&& 31)) &&& (1 : Int32) = 1) := fun q => z (decide_eq_true q)
      rw [if_neg z']
      refine hear υ none none _ u1 u2 ?_ ?_
      · rw [es, if_neg z, Int.zero_mul, Int.add_zero]; exact u4
      · rw [es, if_neg z, Int.add_zero]; exact u5
set_option maxHeartbeats 2000000 in
theorem rz_c_weigh {E : rz_En} {np nb b p : Nat} {τ : ra_S} (h : rz_CB 74 E np nb τ) (ok : rz_Eok E np nb) (hb1 : 1 ≤ b) (hb : b < nb) (hp : p < np) (ht : ∀ b', b' < b → ∀ q, q < np → τ.1 73 (8 * b' + q) = Int32.ofInt (rz_e E np b' q)) : ∃ υ' : ra_S, ra_C 44 [.ref 72, .ref 10, .ref 62, .int (nI p), .int (nI b), .long (rz_L (rz_bg E b + rz_hb E p))] τ = ra_J (rz_L (rz_pre E np b p)) υ' ∧ υ'.1 = τ.1 ∧ ∀ c, c ≠ 72 → υ'.2 c = τ.2 c := by
  obtain ⟨a1, a2, a3, a4, a5, a6, a7, a8⟩ := id h
  obtain ⟨mw, mh, ld, ml, l0, l3, md⟩ := a5 p hp
  have i1 := fun q => (rz_row_in E np (b - 1) q).1
  have i2 := fun q => (rz_row_in E np (b - 1) q).2
  have h1 : ∀ q, q < np → τ.1 73 (8 * (b - 1) + q) = Int32.ofInt ((rz_row E np (b - 1)).1 q) := fun q g1 => ht (b - 1) (by omega) q g1
  have h2 : b ≠ 1 → τ.1 73 (8 * (b - 2) + p) = Int32.ofInt ((rz_row E np (b - 1)).2 p) := fun y => by
    rw [ht (b - 2) (by omega) p hp, show b - 1 = b - 2 + 1 by omega, rz_row2]; rfl
  have bg1 := ok.2.2.1 1 (by omega)
  have hg : -2000000000 ≤ rz_gap E b (rz_row E np (b - 1)).1 (rz_row E np (b - 1)).2 p ∧ rz_gap E b (rz_row E np (b - 1)).1 (rz_row E np (b - 1)).2 p ≤ 2000000000 := by
    unfold rz_gap
    have := i1 p
    have := i2 p
    by_cases y : b = 1
    · rw [if_pos y]; omega
    · rw [if_neg y]; omega
  have s1 : nI b - (1 : Int32) = nI (b - 1) := pk_sub (a := b) (b := 1) hb1
  have cw := fun (σ : ra_S) (e : σ.1 = τ.1) (j : Nat) (hj : j < 4) => (rz_c_cw (σ := σ) (p := p) (by omega) hj).trans (by rw [e, mw j hj])
  unfold rz_pre
  rw [if_neg (by omega), e_44, rz_c_gap (E := E) (by omega) hb1 (by omega) i1 i2 (a8 1 (by omega)) bg1 (h1 p hp) h2, ra_kJ, s1, rz_c_at (by omega) (by omega), ra_kI, show (2 : Int32) = nI 2 from rfl, cw τ rfl 2 (by omega), ra_kI, show (3 : Int32) = nI 3 from rfl, cw τ rfl 3 (by omega), ra_kI, show (0 : Int32) = nI 0 from rfl, rz_c_cw (p := p) (j := 0) (by omega) (by omega), ra_kI, e_45, ra_kV, show (1 : Int32) = nI 1 from rfl, rz_c_cw (p := p) (j := 1) (by omega) (by omega), ra_kI, e_45, ra_kV, h1 p hp, rz_oL (i1 p), rz_L_add]
  simp only [ra_ul_1, mw 0 (by omega), mw 1 (by omega)]
  refine rz_c_wloop h ok hb1 hb hp i1 hg h1 np 0 (by omega) _ _ _ _ _ _ rfl (fun c hc => by rw [ra_ul_2 c hc, ra_ul_2 c hc, ra_ul_2 c hc, ra_ul_2 c hc, ra_ul_2 c hc, ra_ul_2 c hc]) ?_ ?_
  · simp only [ra_ul_get]
    simp only [Nat.reduceEqDiff, and_false, if_false, and_self, if_true]
    rw [rz_wL (ok.1 p hp 0 (by omega)), rz_wL (ok.1 p hp 1 (by omega)), rz_L_mul, rz_L_mul, show (0 : Int64) = rz_L 0 from rfl, rz_L_add, rz_L_add, Int.zero_add, rz_fold]
  · simp only [ra_ul_get]
    simp only [Nat.reduceEqDiff, and_false, if_false, and_self, if_true]
    rw [rz_wL (ok.1 p hp 0 (by omega)), rz_wL (ok.1 p hp 1 (by omega)), show (0 : Int64) = rz_L 0 from rfl, rz_L_add, rz_L_add, Int.zero_add, rz_fold]
def rz_CI (E : rz_En) (np s j b p : Nat) (σ τ : ra_S) : Prop := (∀ c, c ≠ 73 → c ≠ 62 → τ.1 c = σ.1 c) ∧ (∀ k, k ≠ 13 → τ.1 62 k = σ.1 62 k) ∧ (∀ c, c ≠ 72 → τ.2 c = σ.2 c) ∧ (∀ b' q, q < np → (b' < b ∨ b' = b ∧ q < p) → τ.1 73 (8 * b' + q) = Int32.ofInt (rz_e E np b' q)) ∧ (j = 0 ∨ τ.1 62 13 = nI (rz_sd s (b * np + p)))
set_option maxHeartbeats 2000000 in
theorem rz_c_one {E : rz_En} {np nb s j nw b p : Nat} {f : Nat → Nat × Nat × Int} {xt : Int} {σ τ : ra_S} (hC : rz_CB 74 E np nb σ) (ok : rz_Eok E np nb) (hW : rz_CW f nw σ) (hj : σ.1 62 12 = nI j) (hj2 : j ≤ 200) (hs : s < 2147483648) (hxt : (if nI p = σ.1 62 9 then if nI b = σ.1 62 10 then σ.1 62 11 else 0 else 0) = Int32.ofInt xt) (hxb : -2000 ≤ xt ∧ xt ≤ 2000) (hx : rz_ex E b p = rz_wsum f p b nw + xt + rz_jt s j (b * np + p)) (hb : b < nb) (hp : p < np) (hI : rz_CI E np s j b p σ τ) (o7 o8 o9 o10 : Option Value) :
    ∃ (τ' : ra_S) (o7' o8' o9' o10' : Option Value), ra_D (ra_lay, none, 99999, ra_m42) 47 [some (.ref 72), some (.ref 10), some (.ref 62), some (.int (nI np)), some (.int (nI nb)), some (.int (nI b)), some (.int (nI p)), o7, o8, o9, o10] [] τ = ra_D (ra_lay, none, 99999, ra_m42) 47 [some (.ref 72), some (.ref 10), some (.ref 62), some (.int (nI np)), some (.int (nI nb)), some (.int (nI b)), some (.int (nI (p + 1))), o7', o8', o9', o10'] [] τ' ∧ rz_CI E np s j b (p + 1) σ τ' := by
  obtain ⟨I1, I2, I3, I4, I5⟩ := id hI
  obtain ⟨a1, a2, a3, a4, a5, a6, a7, a8⟩ := id hC
  have cc : ∀ υ : ra_S, υ.1 = τ.1 → rz_CB 74 E np nb υ := fun υ e => rz_CB_eq (by rw [e]; exact I1 16 (by decide) (by decide)) (by rw [e]; exact I1 10 (by decide) (by decide)) (by rw [e]; exact I1 69 (by decide) (by decide)) (by rw [e]; exact I1 71 (by decide) (by decide)) (by rw [e]; exact I1 70 (by decide) (by decide)) (by rw [e]; exact I1 74 (by decide) (by decide)) (by rw [e]; exact I1 21 (by decide) (by decide)) (by rw [e]; exact I1 67 (by decide) (by decide)) (by rw [e]; exact I1 68 (by decide) (by decide)) (by rw [e]; exact I1 25 (by decide) (by decide)) hC
  obtain ⟨mw, mh, -⟩ := (cc τ rfl).2.2.2.2.1 p hp
  have e25 := (cc τ rfl).2.2.2.2.2.2.2 b (by omega)
  have hbb := ok.2.2.1 b (by omega)
  have hhb := ok.2.1 p hp
  have pin := rz_pre_in ok a3 hb hp
  have win := rz_wsum_in (fun w hw => (hW.2.2 w hw).2.2.2.2.2) p b
  have jin := rz_jt_in s j (b * np + p)
  have hnw := hW.2.1
  have fin : ∀ (υ : ra_S) (o7 o8 o9 o10 : Option Value), υ.1 = τ.1 → (∀ c, c ≠ 72 → υ.2 c = τ.2 c) → ∃ (τ' : ra_S) (o7' o8' o9' o10' : Option Value), ra_D (ra_lay, none, 99999, ra_m42) 94 [some (.ref 72), some (.ref 10), some (.ref 62), some (.int (nI np)), some (.int (nI nb)), some (.int (nI b)), some (.int (nI p)), o7, o8, o9, o10] [.long (rz_L (rz_pre E np b p))] υ = ra_D (ra_lay, none, 99999, ra_m42) 47 [some (.ref 72), some (.ref 10), some (.ref 62), some (.int (nI np)), some (.int (nI nb)), some (.int (nI b)), some (.int (nI (p + 1))), o7', o8', o9', o10'] [] τ' ∧ rz_CI E np s j b (p + 1) σ τ' := by
    intro υ o7 o8 o9 o10 u1 u2
    have hWu : rz_CW f nw υ := by
      unfold rz_CW at hW ⊢
      rw [u1, I1 10 (by decide) (by decide), I1 26 (by decide) (by decide), I1 27 (by decide) (by decide), I1 28 (by decide) (by decide)]
      exact hW
    obtain ⟨υ2, d1, d2, d3, d4, d5⟩ := rz_c_draw (σ := υ) (s := s) (j := j) (k := b * np + p) (by rw [u1, I2 12 (by decide)]; exact hj) hj2 hs (by rw [u1]; exact I5)
    have e7 : ra_C 7 [.ref 62, .int (nI p), .int (nI b)] υ = ra_I (Int32.ofInt xt) υ := by
      rw [e_7, u1, I2 9 (by decide), I2 10 (by decide), I2 11 (by decide), ← hxt]
      by_cases z1 : nI p = σ.1 62 9
      · rw [if_pos z1, if_pos z1]
        by_cases z2 : nI b = σ.1 62 10
        · rw [if_pos z2, if_pos z2]
        · rw [if_neg z2, if_neg z2]
      · rw [if_neg z1, if_neg z1]
    rw [e_42_94, rz_c_wr hWu (by omega) (by omega), ra_kI, e7, ra_kI, d1, ra_kI, ← Int32.ofInt_add, ← Int32.ofInt_add, rz_oL (by omega), rz_L_add, ← hx, rz_c_min υ2 (by omega) (by omega), ra_kJ, rz_c_max υ2 (by split <;> omega) (by split <;> omega), ra_kJ, show (8 : Int32) = nI 8 from rfl, pk_mul, nI_add, rz_ig (by omega) (by omega), nI_clamp (by omega), nI_1]
    refine ⟨_, _, _, _, _, rfl, fun c h1 h2 => ?_, fun k hk => ?_, fun c hc => ?_, fun b' q g1 g3 => ?_, ?_⟩
    · rw [ra_ui_1 c h1, d2 c h2, u1]; exact I1 c h1 h2
    · rw [ra_ui_1 62 (by decide), d3 k hk, u1]; exact I2 k hk
    · rw [ra_ui_2, d4, u2 c hc]; exact I3 c hc
    · rw [ra_ui_get]
      by_cases y : 8 * b' + q = b * 8 + p
      · have : b' = b := by omega
        have : q = p := by omega
        subst b' q
        rw [if_pos ⟨rfl, y⟩, rz_e_pre]
        have tt : ∀ v : Int, -9223372036854775808 ≤ v → v < 9223372036854775808 → (rz_L v).toInt32 = Int32.ofInt v := fun v v1 v2 => by rw [← Int32.toInt_inj, Int64.toInt_toInt32, rz_L_i v1 v2, Int32.toInt_ofInt]
        rw [tt _ (by (repeat' split) <;> omega) (by (repeat' split) <;> omega)]
        congr 1
        unfold rz_cl
        (repeat' split) <;> omega
      · rw [if_neg (fun z => y z.2), d2 73 (by decide), u1]
        exact I4 b' q g1 (by omega)
    · rw [ra_ui_1 62 (by decide)]; exact d5
  rw [e_42_47, rz_il (by omega) hp, rz_ig (by omega) (by omega), rz_ig (by omega) (by omega), nI_clamp (by omega), nI_clamp (by omega), e25, mh, rz_oL (by omega), rz_oL (by omega), rz_L_add]
  by_cases z : b = 0
  · subst z
    rw [if_pos (show nI 0 = (0 : Int32) from rfl)]
    have := fin τ (some (.long (rz_L (rz_bg E 0 + rz_hb E p)))) none o9 o10 rfl (fun _ _ => rfl)
    rw [show rz_pre E np 0 p = rz_bg E 0 + rz_hb E p from if_pos rfl] at this
    exact this
  · rw [if_neg (show ¬ nI b = (0 : Int32) from fun y => z ((nI_eq (a := b) (b := 0) (by omega) (by omega)).mp y))]
    obtain ⟨υ, e, u1, u2⟩ := rz_c_weigh (cc τ rfl) ok (by omega) hb hp (fun b' g q g1 => I4 b' q g1 (Or.inl g))
    rw [e, ra_kJ]
    exact fin υ _ _ _ _ u1 u2
/-- the class plays -/
theorem rz_c_play {E : rz_En} {np nb s j nw : Nat} {f : Nat → Nat × Nat × Int} {xt : Nat → Nat → Int} {σ : ra_S} (hC : rz_CB 74 E np nb σ) (ok : rz_Eok E np nb) (hW : rz_CW f nw σ) (hj : σ.1 62 12 = nI j) (hj2 : j ≤ 200) (hs : s < 2147483648) (hxt : ∀ b p, b < nb → p < np → (if nI p = σ.1 62 9 then if nI b = σ.1 62 10 then σ.1 62 11 else 0 else 0) = Int32.ofInt (xt b p) ∧ -2000 ≤ xt b p ∧ xt b p ≤ 2000) (hx : ∀ b p, b < nb → p < np → rz_ex E b p = rz_wsum f p b nw + xt b p + rz_jt s j (b * np + p)) (h0 : j = 0 ∨ σ.1 62 13 = nI s) :
    ∃ τ : ra_S, ra_D (ra_lay, none, 99999, ra_m42) 37 [some (.ref 72), some (.ref 10), some (.ref 62), some (.int (nI np)), some (.int (nI nb)), some (.int 0), none, none, none, none, none] [] σ = ra_V τ ∧ rz_CI E np s j nb 0 σ τ := by
  have row : ∀ b, b < nb → ∀ d p, p + d = np → ∀ (τ : ra_S) (o7 o8 o9 o10 : Option Value), rz_CI E np s j b p σ τ → ∃ (τ' : ra_S) (o6' o7' o8' o9' o10' : Option Value), ra_D (ra_lay, none, 99999, ra_m42) 47 [some (.ref 72), some (.ref 10), some (.ref 62), some (.int (nI np)), some (.int (nI nb)), some (.int (nI b)), some (.int (nI p)), o7, o8, o9, o10] [] τ = ra_D (ra_lay, none, 99999, ra_m42) 37 [some (.ref 72), some (.ref 10), some (.ref 62), some (.int (nI np)), some (.int (nI nb)), some (.int (nI (b + 1))), o6', o7', o8', o9', o10'] [] τ' ∧ rz_CI E np s j (b + 1) 0 σ τ' := by
    intro b hb d
    induction d with
    | zero =>
      intro p hp τ o7 o8 o9 o10 hI
      have : p = np := by omega
      subst this
      obtain ⟨I1, I2, I3, I4, I5⟩ := id hI
      rw [e_42_47, rz_inl (by have := hC.2.2.1; omega) (by omega), nI_1]
      refine ⟨τ, _, _, _, _, _, rfl, I1, I2, I3, fun b' q g1 g3 => I4 b' q g1 (by omega), ?_⟩
      rw [show (b + 1) * p + 0 = b * p + p by rw [Nat.succ_mul]; omega]
      exact I5
    | succ d ih =>
      intro p hp τ o7 o8 o9 o10 hI
      obtain ⟨t1, t2⟩ := hxt b p hb (by omega)
      obtain ⟨τ', q7, q8, q9, q10, e, hI'⟩ := rz_c_one hC ok hW hj hj2 hs t1 t2 (hx b p hb (by omega)) hb (by omega) hI o7 o8 o9 o10
      rw [e]
      exact ih (p + 1) (by omega) τ' q7 q8 q9 q10 hI'
  have loop : ∀ d b, b + d = nb → ∀ (τ : ra_S) (o6 o7 o8 o9 o10 : Option Value), rz_CI E np s j b 0 σ τ → ∃ τ' : ra_S, ra_D (ra_lay, none, 99999, ra_m42) 37 [some (.ref 72), some (.ref 10), some (.ref 62), some (.int (nI np)), some (.int (nI nb)), some (.int (nI b)), o6, o7, o8, o9, o10] [] τ = ra_V τ' ∧ rz_CI E np s j nb 0 σ τ' := by
    intro d
    induction d with
    | zero =>
      intro b hb τ o6 o7 o8 o9 o10 hI
      have : b = nb := by omega
      subst this
      rw [e_42_37, rz_inl (by have := hC.2.2.2.1; omega) (by omega)]
      exact ⟨τ, rfl, hI⟩
    | succ d ih =>
      intro b hb τ o6 o7 o8 o9 o10 hI
      obtain ⟨τ', q6, q7, q8, q9, q10, e, hI'⟩ := row b (by omega) np 0 (by omega) τ o7 o8 o9 o10 hI
      rw [e_42_37, rz_il (by have := hC.2.2.2.1; omega) (by omega), show (0 : Int32) = nI 0 from rfl, e]
      exact ih (b + 1) (by omega) τ' q6 q7 q8 q9 q10 hI'
  exact loop nb 0 (by omega) σ none none none none none ⟨fun _ _ _ => rfl, fun _ _ => rfl, fun _ _ => rfl, fun b' q _ g => by omega, by rw [show 0 * np + 0 = 0 by omega]; exact h0⟩
set_option maxHeartbeats 2000000 in
theorem rz_c_run {E : rz_En} {np nb nl s j nw : Nat} {f : Nat → Nat × Nat × Int} {xt : Nat → Nat → Int} {σ : ra_S} (hA : rz_CA E np nb nl σ) (ok : rz_Eok E np nb) (hW : rz_CW f nw σ) (hj : σ.1 62 12 = nI j) (hj2 : j ≤ 200) (hs : s < 2147483648) (hxt : ∀ b p, b < nb → p < np → (if nI p = σ.1 62 9 then if nI b = σ.1 62 10 then σ.1 62 11 else 0 else 0) = Int32.ofInt (xt b p) ∧ -2000 ≤ xt b p ∧ xt b p ≤ 2000) (hx : ∀ b p, b < nb → p < np → rz_ex E b p = rz_wsum f p b nw + xt b p + rz_jt s j (b * np + p)) (h0 : j = 0 ∨ σ.1 62 13 = nI s) :
    ∃ τ : ra_S, ra_C 42 [.ref 72, .ref 10, .ref 62] σ = ra_V τ ∧ (∀ c, c ∉ [62, 69, 70, 71, 73, 74] → τ.1 c = σ.1 c) ∧ (∀ k, k ≠ 13 → τ.1 62 k = σ.1 62 k) ∧ (∀ c, c ≠ 72 → τ.2 c = σ.2 c) ∧ (∀ b p, b < nb → p < np → τ.1 73 (8 * b + p) = Int32.ofInt (rz_e E np b p)) ∧ (j = 0 ∨ τ.1 62 13 = nI (rz_sd s (nb * np))) := by
  obtain ⟨a1, a2, a3, a4, ⟨a5, a6⟩, a7, a8, a9, a10⟩ := id hA
  obtain ⟨τ1, e1, w1, w2, w3⟩ := rz_c_weighUp a5 a6
  obtain ⟨τ2, e2, m1, m2, m3⟩ := rz_c_ways (σ := τ1)
  have fr : ∀ c, c ∉ [69, 70, 71, 74] → τ2.1 c = σ.1 c := fun c hc => by
    simp only [List.mem_cons, List.not_mem_nil, or_false, not_or] at hc
    rw [m1 c hc.2.2.2, w1 c hc.1 hc.2.1 hc.2.2.1]
  have CB : rz_CB 74 E np nb τ2 := by
    refine ⟨by rw [fr 16 (by decide)]; exact a1, by rw [fr 10 (by decide)]; exact a2, a3, a4, fun p hp => ?_, fun q hq => by rw [fr 21 (by decide)]; exact a8 q hq, fun p q hp hq => by rw [fr 67 (by decide), fr 68 (by decide)]; exact a9 p q hp hq, fun n hn => by rw [fr 25 (by decide)]; exact a10 n hn⟩
    obtain ⟨l, hl, l1, l2, l3, l4, l5, l6⟩ := a7 p hp
    obtain ⟨q1, q2, q3⟩ := w3 p (by omega)
    have tl : (nI l).toInt = l := nI_toInt (by omega)
    have inl : 0 ≤ (nI l).toInt ∧ (nI l).toInt < nl := by omega
    have cl : (nI l).toNatClampNeg = l := nI_clamp (by omega)
    have eld : rz_ld σ nl p = Int32.ofInt (rz_cah σ p l) := by
      unfold rz_ld rz_la rz_cah
      rw [l1, decide_eq_true inl, Bool.true_and, cl]
      by_cases c : σ.1 15 l = 0
      · rw [if_pos c, if_neg (by simp [c])]; rfl
      · rw [if_neg c, if_pos (by simp [c]), rz_ofI]
    have ldb : 0 ≤ rz_cah σ p l ∧ rz_cah σ p l ≤ 300 := by
      unfold rz_cah
      have := a8 p hp
      by_cases c : σ.1 15 l = 0
      · rw [if_pos c]; omega
      · rw [if_neg c]; exact this
    refine ⟨fun j hj => ?_, ?_, rz_cah σ p l, ?_, ldb.1, ldb.2, fun q hq => ?_⟩
    · rw [m1 69 (by decide), q1 j hj, l2 j hj]
      unfold rz_wv rz_lw
      rw [l1, if_pos inl, cl]
      by_cases c : rz_bit (σ.1 66 p) j = true
      · rw [if_pos c, if_pos c]; rfl
      · rw [if_neg c, if_neg c, rz_ofI]
    · rw [m1 71 (by decide), q3, l3, Int32.ofInt_sub, rz_ofI, eld]
      unfold rz_lh
      rw [l1, if_pos inl, cl]
    · rw [m1 70 (by decide), q2, eld]
    · obtain ⟨-, -, -, -, -, k4, k5, -⟩ := a7 q hq
      refine ⟨rz_wyf (σ.1 63 p) (σ.1 64 p) (σ.1 63 q) (σ.1 64 q), rz_wyf_lt l4 l5 k4 k5, ?_, ?_⟩
      · rw [m3 p q (by omega) (by omega), w1 63 (by decide) (by decide) (by decide), w1 64 (by decide) (by decide) (by decide), rz_wb_wyf l4 l5 k4 k5]
      · rw [fr 21 (by decide)]; exact l6 q hq
  have hW2 : rz_CW f nw τ2 := by
    unfold rz_CW at hW ⊢
    rw [fr 10 (by decide), fr 26 (by decide), fr 27 (by decide), fr 28 (by decide)]
    exact hW
  have f62 := fr 62 (by decide)
  obtain ⟨τ, e, I1, I2, I3, I4, I5⟩ := rz_c_play (σ := τ2) CB ok hW2 (by rw [f62]; exact hj) hj2 hs (by rw [f62]; exact hxt) hx (by rw [f62]; exact h0)
  refine ⟨τ, ?_, fun c hc => ?_, fun k hk => by rw [I2 k hk, f62], fun c hc => by rw [I3 c hc, m2, w2], fun b p g1 g2 => I4 b p g2 (Or.inl g1), by rw [Nat.add_zero] at I5; exact I5⟩
  · rw [e_42, e1, ra_kV, e2, ra_kV, CB.1, e_251, show (8 : Int32) = nI 8 from rfl, rz_inl (by omega) a3, ra_kI, CB.2.1, e_251, show (40 : Int32) = nI 40 from rfl, rz_inl (by omega) a4, ra_kI]
    exact e
  · simp only [List.mem_cons, List.not_mem_nil, or_false, not_or] at hc
    rw [I1 c hc.2.2.2.2.1 hc.1, fr c (by simp only [List.mem_cons, List.not_mem_nil, or_false, not_or]; exact ⟨hc.2.1, hc.2.2.1, hc.2.2.2.1, hc.2.2.2.2.2⟩)]
