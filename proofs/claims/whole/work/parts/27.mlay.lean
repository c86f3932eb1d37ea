-- ===== short rows for reading equations =====
theorem rz_ig {α : Type} {n : Nat} {N : Int} {x y : α} (h : n < 2147483648) (h2 : (n : Int) < N) : (if 0 ≤ (nI n).toInt ∧ (nI n).toInt < N then x else y) = x := if_pos (rz_gd h h2)
theorem rz_il {α : Type} {a b : Nat} {x y : α} (hb : b < 2147483648) (h : a < b) : (if nI a < nI b then x else y) = x := if_pos (nI_lt h hb)
theorem rz_inl {α : Type} {a b : Nat} {x y : α} (ha : a < 2147483648) (h : b ≤ a) : (if nI a < nI b then x else y) = y := if_neg (nI_nlt h ha)
theorem rz_ie {α : Type} {a b : Nat} {x y : α} (h : a = b) : (if nI a = nI b then x else y) = x := if_pos (by rw [h])
theorem rz_ine {α : Type} {a b : Nat} {x y : α} (ha : a < 2147483648) (hb : b < 2147483648) (h : a ≠ b) : (if nI a = nI b then x else y) = y := if_neg (fun q => h ((nI_eq ha hb).mp q))
theorem rz_addI {x y : Int32} (h1 : -2147483648 ≤ x.toInt + y.toInt) (h2 : x.toInt + y.toInt < 2147483648) : (x + y).toInt = x.toInt + y.toInt := by
  rw [Int32.toInt_add]; exact Int.bmod_eq_of_le (by omega) (by omega)
theorem rz_subI {x y : Int32} (h1 : -2147483648 ≤ x.toInt - y.toInt) (h2 : x.toInt - y.toInt < 2147483648) : (x - y).toInt = x.toInt - y.toInt := by
  rw [Int32.toInt_sub]; exact Int.bmod_eq_of_le (by omega) (by omega)
-- ===== drawn numbers =====
def rz_sd (s : Nat) : Nat → Nat
  | 0 => s
  | k + 1 => (rz_sd s k * 1103515245 + 12345) % 2147483648
def rz_jt (s j k : Nat) : Int := ((rz_sd s (k + 1) / 65536 % (2 * j + 1) : Nat) : Int) - (j : Int)
theorem rz_sd_lt {s : Nat} (h : s < 2147483648) : ∀ k, rz_sd s k < 2147483648
  | 0 => h
  | k + 1 => Nat.mod_lt _ (by omega)
theorem rz_jt0 (s k : Nat) : rz_jt s 0 k = 0 := by
  unfold rz_jt
  rw [show 2 * 0 + 1 = 1 from rfl, Nat.mod_one]; rfl
theorem rz_jt_in (s j k : Nat) : -(j : Int) ≤ rz_jt s j k ∧ rz_jt s j k ≤ (j : Int) := by
  unfold rz_jt
  have := Nat.mod_lt (rz_sd s (k + 1) / 65536) (show 0 < 2 * j + 1 by omega)
  omega
theorem rz_mask {x : Nat} (h : x < 2 ^ 64) : lN x &&& (2147483647 : Int64) = lN (x % 2147483648) := by
  apply Int64.toBitVec_inj.mp
  apply BitVec.eq_of_toNat_eq
  rw [Int64.toBitVec_and, BitVec.toNat_and, show (2147483647 : Int64).toBitVec.toNat = 2 ^ 31 - 1 by decide, Nat.and_two_pow_sub_one_eq_mod]
  have e1 : (lN x).toBitVec.toNat = x := Nat.mod_eq_of_lt h
  have e2 : (lN (x % 2147483648)).toBitVec.toNat = x % 2147483648 := Nat.mod_eq_of_lt (by omega)
  rw [e1, e2]
theorem rz_lcg {s : Nat} (hs : s < 2147483648) : (lN s * (1103515245 : Int64) + (12345 : Int64)) &&& (2147483647 : Int64) = lN ((s * 1103515245 + 12345) % 2147483648) := by
  rw [show (1103515245 : Int64) = lN 1103515245 from rfl, show (12345 : Int64) = lN 12345 from rfl, lN_mul, lN_add, rz_mask (by omega)]
theorem rz_lNL (n : Nat) : lN n = rz_L (n : Int) := rfl
-- ===== the reference lays entries =====
theorem rz_MA_eq {E : rz_En} {np nb : Nat} {σ τ : ra_S} (h : ∀ c, c ≠ 102 → τ.1 c = σ.1 c) (hM : rz_MA E np nb σ) : rz_MA E np nb τ := by
  unfold rz_MA rz_MP rz_on rz_ah at hM ⊢
  simp only [h 86 (by decide), h 93 (by decide), h 91 (by decide), h 101 (by decide), h 94 (by decide), h 95 (by decide), h 89 (by decide)]
  exact hM
/-- the reference's wrongs -/
def rz_MW (f : Nat → Nat × Nat × Int) (nw : Nat) (τ : ra_S) : Prop := τ.1 86 15 = nI nw ∧ nw ≤ 7 ∧ ∀ w, w < nw → τ.1 96 (3 * w) = nI (f w).1 ∧ τ.1 96 (3 * w + 1) = nI (f w).2.1 ∧ τ.1 96 (3 * w + 2) = Int32.ofInt (f w).2.2 ∧ (f w).1 < 100 ∧ (f w).2.1 < 100 ∧ -2000 ≤ (f w).2.2 ∧ (f w).2.2 ≤ 2000
theorem rz_MW_eq {f : Nat → Nat × Nat × Int} {nw : Nat} {σ τ : ra_S} (h : ∀ c, c ≠ 102 → τ.1 c = σ.1 c) (hM : rz_MW f nw σ) : rz_MW f nw τ := by
  unfold rz_MW at hM ⊢
  simp only [h 86 (by decide), h 96 (by decide)]
  exact hM
theorem rz_wsum_in {f : Nat → Nat × Nat × Int} {n : Nat} (h : ∀ w, w < n → -2000 ≤ (f w).2.2 ∧ (f w).2.2 ≤ 2000) (p b : Nat) : -(2000 * (n : Int)) ≤ rz_wsum f p b n ∧ rz_wsum f p b n ≤ 2000 * (n : Int) := by
  induction n with
  | zero => unfold rz_wsum; omega
  | succ n ih =>
    have i := ih (fun w hw => h w (by omega))
    have a := h n (by omega)
    rw [rz_wsum]
    by_cases c : (f n).1 = p ∧ (f n).2.1 = b
    · rw [if_pos c]; omega
    · rw [if_neg c]; omega
theorem rz_m_wr {f : Nat → Nat × Nat × Int} {nw : Nat} {τ : ra_S} (h : rz_MW f nw τ) {b p : Nat} (hb : b < 100) (hp : p < 100) (T : Int) : ∀ d k, k + d = nw → ra_D (ra_lay, none, 99999, ra_m190) 41 [some (.ref 86), some (.int (nI b)), some (.int (nI p)), some (.long (rz_L (T + rz_wsum f p b k))), none, some (.int (nI k))] [] τ = ra_D (ra_lay, none, 99999, ra_m190) 41 [some (.ref 86), some (.int (nI b)), some (.int (nI p)), some (.long (rz_L (T + rz_wsum f p b nw))), none, some (.int (nI nw))] [] τ := by
  obtain ⟨h15, hw, hf⟩ := h
  intro d
  induction d with
  | zero => intro k hk; have : k = nw := by omega
            subst this; rfl
  | succ d ih =>
    intro k hk
    obtain ⟨f1, f2, f3, f4, f5, f6⟩ := hf k (by omega)
    have i := ih (k + 1) (by omega)
    rw [rz_wsum] at i
    rw [e_190_41, h15, rz_il (by omega) (by omega), show (3 : Int32) * nI k = nI (3 * k) from pk_mul 3 k, show nI (3 * k) + (1 : Int32) = nI (3 * k + 1) from nI_add _ 1, show nI (3 * k) + (2 : Int32) = nI (3 * k + 2) from nI_add _ 2, rz_ig (by omega) (by omega), rz_ig (by omega) (by omega), rz_ig (by omega) (by omega), nI_clamp (by omega), nI_clamp (by omega), nI_clamp (by omega), f1, f2, f3, nI_1, Int64.add_zero, rz_oL (by omega), rz_L_add, Int.add_assoc]
    by_cases z1 : (f k).1 = p
    · rw [rz_ie z1]
      by_cases z2 : (f k).2.1 = b
      · rw [rz_ie z2]
        rw [if_pos ⟨z1, z2⟩] at i
        exact i
      · rw [rz_ine (by omega) (by omega) z2]
        rw [if_neg (fun q => z2 q.2), Int.add_zero] at i
        exact i
    · rw [rz_ine (by omega) (by omega) z1]
      rw [if_neg (fun q => z1 q.1), Int.add_zero] at i
      exact i
theorem rz_pre_in {E : rz_En} {np nb : Nat} (ok : rz_Eok E np nb) (hnp : np ≤ 8) {b p : Nat} (hb : b < nb) (hp : p < np) : -1000000000000 ≤ rz_pre E np b p ∧ rz_pre E np b p ≤ 1000000000000 := by
  have hh := ok.2.1 p hp
  unfold rz_pre
  by_cases z : b = 0
  · have := ok.2.2.1 0 (by omega)
    rw [if_pos z]; omega
  · rw [if_neg z]
    have i1 := fun q => (rz_row_in E np (b - 1) q).1
    have i2 := fun q => (rz_row_in E np (b - 1) q).2
    have hg : -2000000000 ≤ rz_gap E b (rz_row E np (b - 1)).1 (rz_row E np (b - 1)).2 p ∧ rz_gap E b (rz_row E np (b - 1)).1 (rz_row E np (b - 1)).2 p ≤ 2000000000 := by
      unfold rz_gap
      have := ok.2.2.1 1 (by omega)
      have := i1 p
      have := i2 p
      by_cases y : b = 1
      · rw [if_pos y]; omega
      · rw [if_neg y]; omega
    have fi := rz_fold_in ok (b := b) (by omega) hp hg i1 np (Nat.le_refl _)
    have := i1 p
    unfold rz_mid
    by_cases y : (rz_fold E b (rz_gap E b (rz_row E np (b - 1)).1 (rz_row E np (b - 1)).2 p) (rz_row E np (b - 1)).1 p np).2 = 0
    · rw [if_pos y]; omega
    · rw [if_neg y]
      have := Int.natAbs_ediv_le_natAbs (rz_fold E b (rz_gap E b (rz_row E np (b - 1)).1 (rz_row E np (b - 1)).2 p) (rz_row E np (b - 1)).1 p np).1 (rz_fold E b (rz_gap E b (rz_row E np (b - 1)).1 (rz_row E np (b - 1)).2 p) (rz_row E np (b - 1)).1 p np).2
      omega
/-- chance: none, or j and the last number -/
def rz_sw (np s j k : Nat) (σ τ : ra_S) : Prop := (σ.1 86 41 = -1 ∧ j = 0) ∨ (σ.1 86 41 = nI j ∧ j ≤ 200 ∧ τ.2 86 42 = lN (rz_sd s k) ∧ ∀ q, q < np → rz_on σ q = true)
def rz_Inv (E : rz_En) (np s j b p : Nat) (σ τ : ra_S) : Prop := (∀ c, c ≠ 102 → τ.1 c = σ.1 c) ∧ (∀ c, c ≠ 86 → τ.2 c = σ.2 c) ∧ (∀ b' q, q < np → rz_on σ q = true → (b' < b ∨ b' = b ∧ q < p) → τ.1 102 (8 * b' + q) = Int32.ofInt (rz_e E np b' q)) ∧ rz_sw np s j (b * np + p) σ τ
theorem rz_on_eq {σ τ : ra_S} (h : τ.1 86 = σ.1 86) (q : Nat) : rz_on τ q = rz_on σ q := by
  unfold rz_on
  rw [h]
set_option maxHeartbeats 2000000 in
theorem rz_m_one {E : rz_En} {np nb s j nw b p : Nat} {f : Nat → Nat × Nat × Int} {σ τ : ra_S} (hM : rz_MA E np nb σ) (ok : rz_Eok E np nb) (hW : rz_MW f nw σ) (hx : rz_ex E b p = rz_wsum f p b nw + rz_jt s j (b * np + p)) (hs : s < 2147483648) (hb : b < nb) (hp : p < np) (hI : rz_Inv E np s j b p σ τ) (o3 o4 o5 : Option Value) :
    ∃ (τ' : ra_S) (o3' o4' o5' : Option Value), ra_D (ra_lay, none, 99999, ra_m190) 12 [some (.ref 86), some (.int (nI b)), some (.int (nI p)), o3, o4, o5] [] τ = ra_D (ra_lay, none, 99999, ra_m190) 12 [some (.ref 86), some (.int (nI b)), some (.int (nI (p + 1))), o3', o4', o5'] [] τ' ∧ rz_Inv E np s j b (p + 1) σ τ' := by
  obtain ⟨I1, I2, I3, I4⟩ := id hI
  obtain ⟨a1, a2, a3, a4, -⟩ := id hM
  have hMt := rz_MA_eq I1 hM
  have hWt := rz_MW_eq I1 hW
  have eo : ∀ q, rz_on τ q = rz_on σ q := rz_on_eq (I1 86 (by decide))
  rw [e_190_12, I1 86 (by decide), a1, rz_il (by omega) hp, rz_m_on, ra_kI, eo]
  by_cases o : rz_on σ p = true
  · rw [if_pos o, if_neg (by decide), rz_m_entry hMt ok hb hp (by rw [eo]; exact o) (fun b' g q g1 g2 => I3 b' q g1 (by rw [← eo]; exact g2) (Or.inl g)), ra_kJ]
    have l1 := rz_m_wr hWt (b := b) (p := p) (by omega) (by omega) (rz_pre E np b p) nw 0 (by omega)
    rw [show rz_wsum f p b 0 = 0 from rfl, Int.add_zero] at l1
    rw [show (0 : Int32) = nI 0 from rfl, l1]
    have pin := rz_pre_in ok a3 hb hp
    have win := rz_wsum_in (fun w hw => (hW.2.2 w hw).2.2.2.2.2) p b
    have jin := rz_jt_in s j (b * np + p)
    have hnw := hW.2.1
    have m8 : (8 : Int32) * nI b + nI p = nI (8 * b + p) := by rw [show (8 : Int32) * nI b = nI (8 * b) from pk_mul 8 b, nI_add]
    have fin : ∀ (τ1 : ra_S) (o5 : Option Value), (∀ c, τ1.1 c = τ.1 c) → (∀ c, c ≠ 86 → τ1.2 c = τ.2 c) → rz_sw np s j (b * np + (p + 1)) σ τ1 → ∃ (τ' : ra_S) (o3' o4' o5' : Option Value), ra_D (ra_lay, none, 99999, ra_m190) 157 [some (.ref 86), some (.int (nI b)), some (.int (nI p)), some (.long (rz_L (rz_pre E np b p + rz_wsum f p b nw + rz_jt s j (b * np + p)))), none, o5] [] τ1 = ra_D (ra_lay, none, 99999, ra_m190) 12 [some (.ref 86), some (.int (nI b)), some (.int (nI (p + 1))), o3', o4', o5'] [] τ' ∧ rz_Inv E np s j b (p + 1) σ τ' := by
      intro τ1 o5 t1 t2 t3
      have hj : j ≤ 200 := by rcases t3 with q | q; (have := q.2; omega); exact q.2.1
      rw [e_190_157, rz_m_cl τ1 (by omega) (by omega), ra_kI, m8, rz_ig (by omega) (by omega), nI_clamp (by omega), nI_1]
      refine ⟨_, _, _, _, rfl, fun c hc => ?_, fun c hc => ?_, fun b' q g1 g2 g3 => ?_, ?_⟩
      · rw [ra_ui_1 c hc, t1 c, I1 c hc]
      · rw [ra_ui_2, t2 c hc, I2 c hc]
      · rw [ra_ui_get]
        by_cases y : 8 * b' + q = 8 * b + p
        · have : b' = b := by omega
          have : q = p := by omega
          subst b' q
          rw [if_pos ⟨rfl, rfl⟩, rz_e_pre, hx, Int.add_assoc]
        · rw [if_neg (fun z => y z.2), t1 102]
          exact I3 b' q g1 g2 (by omega)
      · rcases t3 with q | q
        · exact Or.inl q
        · exact Or.inr q
    rw [e_190_41, hWt.1, rz_inl (by omega) (by omega)]
    rcases I4 with ⟨g1, g2⟩ | ⟨g1, g2, g3, g4⟩
    · rw [I1 86 (by decide), g1, if_pos (by decide)]
      have := fin τ (some (.int (nI nw))) (fun _ => rfl) (fun _ _ => rfl) (Or.inl ⟨g1, g2⟩)
      rw [g2, rz_jt0, Int.add_zero] at this
      rw [g2]
      exact this
    · have sl := rz_sd_lt hs (b * np + p)
      have sl2 := rz_sd_lt hs (b * np + p + 1)
      have e1 : (2 : Int32) * nI j + (1 : Int32) = nI (2 * j + 1) := by rw [show (2 : Int32) * nI j = nI (2 * j) from pk_mul 2 j, nI_1]
      rw [I1 86 (by decide), g1, if_neg (nI_pos (by omega)), e1, nI_l (by omega), if_neg (fun z => by have := (lN_eq (a := 2 * j + 1) (b := 0) (by omega) (by omega)).mp z; omega), g3, rz_lcg sl, nI_l (by omega), show (65536 : Int64) = lN 65536 from rfl]
      rw [show (rz_sd s (b * np + p) * 1103515245 + 12345) % 2147483648 = rz_sd s (b * np + p + 1) from rfl, pk_lDiv (by omega) (by omega) (by omega), pk_lRem (by omega) (by omega) (by omega), rz_lNL, rz_lNL, rz_L_sub, rz_L_add]
      refine fin _ _ (fun _ => rfl) (fun c hc => ra_ul_2 c hc) (Or.inr ⟨g1, g2, ?_, g4⟩)
      rw [ra_ul_get, if_pos ⟨rfl, rfl⟩]; rfl
  · rw [if_neg o, if_pos rfl, nI_1]
    refine ⟨τ, o3, o4, o5, rfl, I1, I2, fun b' q g1 g2 g3 => I3 b' q g1 g2 ?_, ?_⟩
    · rcases g3 with g3 | ⟨g3, g4⟩
      · exact Or.inl g3
      · by_cases y : q = p
        · subst y; exact absurd g2 o
        · exact Or.inr ⟨g3, by omega⟩
    · rcases I4 with q | q
      · exact Or.inl q
      · exact absurd (q.2.2.2 p hp) o
theorem rz_m_row {E : rz_En} {np nb s j nw b : Nat} {f : Nat → Nat × Nat × Int} {σ : ra_S} (hM : rz_MA E np nb σ) (ok : rz_Eok E np nb) (hW : rz_MW f nw σ) (hx : ∀ p, p < np → rz_ex E b p = rz_wsum f p b nw + rz_jt s j (b * np + p)) (hs : s < 2147483648) (hb : b < nb) :
    ∀ d p, p + d = np → ∀ (τ : ra_S) (o3 o4 o5 : Option Value), rz_Inv E np s j b p σ τ → ∃ (τ' : ra_S) (o2' o3' o4' o5' : Option Value), ra_D (ra_lay, none, 99999, ra_m190) 12 [some (.ref 86), some (.int (nI b)), some (.int (nI p)), o3, o4, o5] [] τ = ra_D (ra_lay, none, 99999, ra_m190) 2 [some (.ref 86), some (.int (nI (b + 1))), o2', o3', o4', o5'] [] τ' ∧ rz_Inv E np s j (b + 1) 0 σ τ' := by
  intro d
  induction d with
  | zero =>
    intro p hp τ o3 o4 o5 hI
    have : p = np := by omega
    subst this
    obtain ⟨I1, I2, I3, I4⟩ := id hI
    rw [e_190_12, I1 86 (by decide), hM.1, rz_inl (by have := hM.2.2.1; omega) (by omega), nI_1]
    refine ⟨τ, _, _, _, _, rfl, I1, I2, fun b' q g1 g2 g3 => I3 b' q g1 g2 (by omega), ?_⟩
    rw [show (b + 1) * p + 0 = b * p + p by rw [Nat.succ_mul]; omega]
    exact I4
  | succ d ih =>
    intro p hp τ o3 o4 o5 hI
    obtain ⟨τ', q3, q4, q5, e, hI'⟩ := rz_m_one hM ok hW (hx p (by omega)) hs hb (by omega) hI o3 o4 o5
    rw [e]
    exact ih (p + 1) (by omega) τ' q3 q4 q5 hI'
/-- the reference's entries, all of them -/
theorem rz_m_lay {E : rz_En} {np nb s j nw : Nat} {f : Nat → Nat × Nat × Int} {σ : ra_S} (hM : rz_MA E np nb σ) (ok : rz_Eok E np nb) (hW : rz_MW f nw σ) (hx : ∀ b p, b < nb → p < np → rz_ex E b p = rz_wsum f p b nw + rz_jt s j (b * np + p)) (hs : s < 2147483648) (h0 : rz_sw np s j 0 σ σ) :
    ∃ τ : ra_S, ra_C 190 [.ref 86] σ = ra_V τ ∧ (∀ c, c ≠ 102 → τ.1 c = σ.1 c) ∧ (∀ c, c ≠ 86 → τ.2 c = σ.2 c) ∧ (∀ b p, b < nb → p < np → rz_on σ p = true → τ.1 102 (8 * b + p) = Int32.ofInt (rz_e E np b p)) ∧ rz_sw np s j (nb * np) σ τ := by
  have loop : ∀ d b, b + d = nb → ∀ (τ : ra_S) (o2 o3 o4 o5 : Option Value), rz_Inv E np s j b 0 σ τ → ∃ τ' : ra_S, ra_D (ra_lay, none, 99999, ra_m190) 2 [some (.ref 86), some (.int (nI b)), o2, o3, o4, o5] [] τ = ra_V τ' ∧ rz_Inv E np s j nb 0 σ τ' := by
    intro d
    induction d with
    | zero =>
      intro b hb τ o2 o3 o4 o5 hI
      have : b = nb := by omega
      subst this
      rw [e_190_2, hI.1 86 (by decide), hM.2.1, rz_inl (by have := hM.2.2.2.1; omega) (by omega)]
      exact ⟨τ, rfl, hI⟩
    | succ d ih =>
      intro b hb τ o2 o3 o4 o5 hI
      obtain ⟨τ', q2, q3, q4, q5, e, hI'⟩ := rz_m_row hM ok hW (fun p hp => hx b p (by omega) hp) hs (by omega) np 0 (by omega) τ o3 o4 o5 hI
      rw [e_190_2, hI.1 86 (by decide), hM.2.1, rz_il (by have := hM.2.2.2.1; omega) (by omega), show (0 : Int32) = nI 0 from rfl, e]
      exact ih (b + 1) (by omega) τ' q2 q3 q4 q5 hI'
  have h00 : rz_Inv E np s j 0 0 σ σ := ⟨fun _ _ => rfl, fun _ _ => rfl, fun b' q _ _ g => by omega, by rw [show 0 * np + 0 = 0 by omega]; exact h0⟩
  obtain ⟨τ, e, I1, I2, I3, I4⟩ := loop nb 0 (by omega) σ none none none none h00
  refine ⟨τ, ?_, I1, I2, fun b p g1 g2 g3 => I3 b p g2 g3 (Or.inl g1), by rw [Nat.add_zero] at I4; exact I4⟩
  rw [e_190]
  exact e
