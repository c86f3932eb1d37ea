-- ===== clear =====
def rz_db (hb : Nat → Int) (np : Nat) (k : Int) : Int := rz_smI (fun p => rz_ab (hb p - k)) np
theorem rz_db_in {hb : Nat → Int} {k : Int} (hk : -600 ≤ k ∧ k ≤ 600) : ∀ n, (∀ p, p < n → -500 ≤ hb p ∧ hb p ≤ 500) → 0 ≤ rz_db hb n k ∧ rz_db hb n k ≤ 1100 * (n : Int)
  | 0, _ => by unfold rz_db rz_smI; omega
  | n + 1, h => by
    have i := rz_db_in (hb := hb) hk n (fun p hp => h p (by omega))
    have j := h n (by omega)
    unfold rz_db at i ⊢
    rw [rz_smI]
    unfold rz_ab at i ⊢
    split <;> omega
theorem rz_db_mid {hb : Nat → Int} {K : Int} : ∀ n, (∀ p, p < n → hb p ≠ K) → rz_db hb n (K - 1) + rz_db hb n (K + 1) = 2 * rz_db hb n K
  | 0, _ => by unfold rz_db rz_smI; omega
  | n + 1, h => by
    have i := rz_db_mid (hb := hb) (K := K) n (fun p hp => h p (by omega))
    have j := h n (by omega)
    unfold rz_db at i ⊢
    rw [rz_smI, rz_smI, rz_smI]
    unfold rz_ab at i ⊢
    (repeat' split) <;> omega
theorem rz_db_lo {hb : Nat → Int} : ∀ n, (∀ p, p < n → -500 ≤ hb p ∧ hb p ≤ 500) → rz_db hb n (-501) = rz_db hb n (-500) + n ∧ rz_db hb n 501 = rz_db hb n 500 + n
  | 0, _ => by unfold rz_db rz_smI; omega
  | n + 1, h => by
    have i := rz_db_lo (hb := hb) n (fun p hp => h p (by omega))
    have j := h n (by omega)
    unfold rz_db at i ⊢
    rw [rz_smI, rz_smI, rz_smI, rz_smI]
    unfold rz_ab at i ⊢
    (repeat' split) <;> omega
/-- the reference's search -/
def rz_kb (f : Int → Int) : Nat → Int
  | 0 => -500
  | m + 1 => if f (-500 + ((m + 1 : Nat) : Int)) < f (rz_kb f m) then -500 + ((m + 1 : Nat) : Int) else rz_kb f m
theorem rz_kb_sp (f : Int → Int) : ∀ m, (-500 ≤ rz_kb f m ∧ rz_kb f m ≤ -500 + (m : Int)) ∧ ∀ k, -500 ≤ k → k ≤ -500 + (m : Int) → f (rz_kb f m) < f k ∨ (f (rz_kb f m) = f k ∧ rz_kb f m ≤ k)
  | 0 => ⟨by unfold rz_kb; omega, fun k h1 h2 => by
      have : k = -500 := by omega
      subst this
      exact Or.inr ⟨rfl, Int.le_refl _⟩⟩
  | m + 1 => by
    obtain ⟨i1, i2⟩ := rz_kb_sp f m
    rw [rz_kb]
    by_cases z : f (-500 + ((m + 1 : Nat) : Int)) < f (rz_kb f m)
    · rw [if_pos z]
      refine ⟨by omega, fun k h1 h2 => ?_⟩
      by_cases y : k = -500 + ((m + 1 : Nat) : Int)
      · subst y; exact Or.inr ⟨rfl, Int.le_refl _⟩
      · rcases i2 k h1 (by omega) with q | q
        · exact Or.inl (by omega)
        · exact Or.inl (by omega)
    · rw [if_neg z]
      refine ⟨by omega, fun k h1 h2 => ?_⟩
      by_cases y : k = -500 + ((m + 1 : Nat) : Int)
      · rw [y]
        by_cases x : f (rz_kb f m) = f (-500 + ((m + 1 : Nat) : Int))
        · exact Or.inr ⟨x, by omega⟩
        · exact Or.inl (by omega)
      · exact i2 k h1 (by omega)
/-- the class's search -/
def rz_hm (f : Int → Int) (hb : Nat → Int) : Nat → Int
  | 0 => hb 0
  | p + 1 => if f (hb (p + 1)) < f (rz_hm f hb p) ∨ (f (hb (p + 1)) = f (rz_hm f hb p) ∧ hb (p + 1) < rz_hm f hb p) then hb (p + 1) else rz_hm f hb p
theorem rz_hm_sp (f : Int → Int) (hb : Nat → Int) : ∀ n, (∃ q, q ≤ n ∧ rz_hm f hb n = hb q) ∧ ∀ p, p ≤ n → f (rz_hm f hb n) < f (hb p) ∨ (f (rz_hm f hb n) = f (hb p) ∧ rz_hm f hb n ≤ hb p)
  | 0 => ⟨⟨0, Nat.le_refl _, rfl⟩, fun p hp => by
      have : p = 0 := by omega
      subst this
      exact Or.inr ⟨rfl, Int.le_refl _⟩⟩
  | n + 1 => by
    obtain ⟨⟨q, q1, q2⟩, i2⟩ := rz_hm_sp f hb n
    rw [rz_hm]
    by_cases z : f (hb (n + 1)) < f (rz_hm f hb n) ∨ (f (hb (n + 1)) = f (rz_hm f hb n) ∧ hb (n + 1) < rz_hm f hb n)
    · rw [if_pos z]
      refine ⟨⟨n + 1, Nat.le_refl _, rfl⟩, fun p hp => ?_⟩
      by_cases y : p = n + 1
      · subst y; exact Or.inr ⟨rfl, Int.le_refl _⟩
      · rcases i2 p (by omega) with w | w
        · left; omega
        · rcases z with z | z
          · left; omega
          · right; omega
    · rw [if_neg z]
      refine ⟨⟨q, by omega, q2⟩, fun p hp => ?_⟩
      by_cases y : p = n + 1
      · subst y
        by_cases x : f (rz_hm f hb n) = f (hb (n + 1))
        · right; refine ⟨x, ?_⟩; omega
        · left; omega
      · exact i2 p (by omega)
theorem rz_clear_eq {hb : Nat → Int} {np : Nat} (h0 : 0 < np) (h : ∀ p, p < np → -500 ≤ hb p ∧ hb p ≤ 500) : rz_hm (rz_db hb np) hb (np - 1) = rz_kb (rz_db hb np) 1000 := by
  obtain ⟨⟨k1, k2⟩, k3⟩ := rz_kb_sp (rz_db hb np) 1000
  obtain ⟨⟨q, q1, q2⟩, q3⟩ := rz_hm_sp (rz_db hb np) hb (np - 1)
  generalize rz_kb (rz_db hb np) 1000 = K at k1 k2 k3 ⊢
  generalize rz_hm (rz_db hb np) hb (np - 1) = B at q2 q3 ⊢
  have ex : ∃ p, p < np ∧ hb p = K := by
    by_cases z : ∃ p, p < np ∧ hb p = K
    · exact z
    · exfalso
      have mid := rz_db_mid (hb := hb) (K := K) np (fun p hp y => z ⟨p, hp, y⟩)
      have lo := rz_db_lo (hb := hb) np h
      have a1 : rz_db hb np K < rz_db hb np (K - 1) := by
        by_cases y : K = -500
        · subst y
          show _ < rz_db hb np (-501)
          omega
        · have := k3 (K - 1) (by omega) (by omega)
          omega
      have a2 : rz_db hb np K ≤ rz_db hb np (K + 1) := by
        by_cases y : K = 500
        · subst y
          show _ ≤ rz_db hb np 501
          omega
        · have := k3 (K + 1) (by omega) (by omega)
          omega
      omega
  obtain ⟨p, hp, rfl⟩ := ex
  have c1 := q3 p (by omega)
  have hq := h q (by omega)
  rw [← q2] at hq
  have c2 := k3 B (by omega) (by omega)
  omega
theorem rz_clear {σ : ra_S} (h : rz_R σ) (a : Int32) : rz_OI 126 243 [.int a] σ := by
  obtain ⟨np, nb, nl, nw, len, hB⟩ := rz_base_of h
  have f0 := rz_ft.rf σ
  have f0' := f0.u2 (x := 0)
  obtain ⟨⟨c1, c2, c3⟩, ⟨c4, c5, c6⟩, ⟨c7, c8, c9⟩, -⟩ := id hB.1
  by_cases z : np = 0
  · subst z
    refine ⟨-2147483648, σ, ra_ui σ 86 2 0, ?_, ?_, rz_R_ft f0' h⟩
    · rw [e_126, c1]; rfl
    · rw [e_243, c2]; rfl
  have nz : ¬ nI np = 0 := nI_ne0 (by omega) (by omega)
  by_cases v2 : 0 ≤ a.toInt ∧ a.toInt ≤ 1
  · obtain ⟨hb, ehb⟩ : ∃ hb : Nat → Int, hb = fun p => (σ.1 91 (6 * rz_lw0 σ p + 4)).toInt := ⟨_, rfl⟩
    have hbi : ∀ p, p < np → -500 ≤ hb p ∧ hb p ≤ 500 := fun p hp => by
      rw [ehb]
      exact (hB.2.1 (rz_lw0 σ p) (rz_lw0_lt hB hp).1).2.2.1.2
    have ch : ∀ p, p < np → ra_C 127 [.ref 0, .int (nI p)] σ = ra_I (Int32.ofInt (hb p)) σ := fun p hp => by
      obtain ⟨l1, l2, l3⟩ := rz_lw0_lt hB hp
      have v1 : 0 ≤ (nI p).toInt ∧ (nI p).toInt < np := rz_gd (by omega) (by omega)
      rw [e_127, rz_kPc hB f0, ra_kI, rz_t v1, rz_ig (by omega) (by omega), nI_clamp (by omega), l2, rz_c_lh c7 c9, ra_kI]
      unfold rz_lh
      rw [if_pos (rz_gd (by omega) (by omega)), nI_clamp (by omega), (hB.2.1 (rz_lw0 σ p) l1).2.2.1.1, ehb, rz_ofI]
    have cd : ∀ k : Int, -600 ≤ k ∧ k ≤ 600 → ra_C 128 [.ref 0, .int (Int32.ofInt k)] σ = ra_I (Int32.ofInt (rz_db hb np k)) σ := fun k hk => by
      have loop : ∀ d p, p + d = np → ra_D (ra_lay, none, 99999, ra_m128) 4 [some (.ref 0), some (.int (Int32.ofInt k)), some (.int (Int32.ofInt (rz_smI (fun p => rz_ab (hb p - k)) p))), some (.int (nI p))] [] σ = ra_I (Int32.ofInt (rz_db hb np k)) σ := by
        intro d
        induction d with
        | zero => intro p hp; have : p = np := by omega
                  subst this; rw [e_128_4, c1, rz_inl (by omega) (by omega)]; rfl
        | succ d ih =>
          intro p hp
          have bi := hbi p (by omega)
          rw [e_128_4, c1, rz_il (by omega) (by omega), ch p (by omega), ra_kI, ← Int32.ofInt_sub, rz_c_abs σ (by omega), ra_kI, ← Int32.ofInt_add, nI_1]
          exact ih (p + 1) (by omega)
      rw [e_128]
      exact loop np 0 (by omega)
    have md : ∀ k : Int, -600 ≤ k ∧ k ≤ 600 → ra_C 242 [.ref 86, .int (Int32.ofInt k)] (ra_ui σ 86 2 0) = ra_I (Int32.ofInt (rz_db hb np k)) (ra_ui σ 86 2 0) := fun k hk => by
      have loop : ∀ d p, p + d = np → ra_D (ra_lay, none, 99999, ra_m242) 4 [some (.ref 86), some (.int (Int32.ofInt k)), some (.int (Int32.ofInt (rz_smI (fun p => rz_ab (hb p - k)) p))), some (.int (nI p))] [] (ra_ui σ 86 2 0) = ra_I (Int32.ofInt (rz_db hb np k)) (ra_ui σ 86 2 0) := by
        intro d
        induction d with
        | zero => intro p hp; have : p = np := by omega
                  subst this; rw [e_242_4, f0'.2 14 (by decide), c2, rz_inl (by omega) (by omega)]; rfl
        | succ d ih =>
          intro p hp
          have bi := hbi p (by omega)
          obtain ⟨l1, l2, l3⟩ := rz_lw0_lt hB (p := p) (by omega)
          have e91 : σ.1 91 (6 * rz_lw0 σ p + 4) = Int32.ofInt (hb p) := by rw [ehb, rz_ofI]
          rw [e_242_4, f0'.2 14 (by decide), c2, rz_il (by omega) (by omega), show (5 : Int32) * nI p = nI (5 * p) from pk_mul 5 p, rz_ig (by omega) (by omega), nI_clamp (by omega), f0'.1 93 (by omega), l3, show (6 : Int32) * nI (rz_lw0 σ p) + (4 : Int32) = nI (6 * rz_lw0 σ p + 4) from rz_six _ 4, rz_ig (by omega) (by omega), nI_clamp (by omega), f0'.1 91 (by omega), e91, ← Int32.ofInt_sub, rz_m_abs _ (by omega), ra_kI, ← Int32.ofInt_add, nI_1]
          exact ih (p + 1) (by omega)
      rw [e_242]
      exact loop np 0 (by omega)
    have dbi : ∀ k : Int, -600 ≤ k ∧ k ≤ 600 → 0 ≤ rz_db hb np k ∧ rz_db hb np k ≤ 8800 := fun k hk => by
      have := rz_db_in (hb := hb) hk np hbi
      omega
    have hmi : ∀ p, p < np → -500 ≤ rz_hm (rz_db hb np) hb p ∧ rz_hm (rz_db hb np) hb p ≤ 500 := fun p hp => by
      obtain ⟨⟨q, q1, q2⟩, -⟩ := rz_hm_sp (rz_db hb np) hb p
      rw [q2]; exact hbi q (by omega)
    have lc : ∀ d p, p + d = np → 1 ≤ p → ∀ o5 o6 : Option Value, ra_D (ra_lay, none, 99999, ra_m126) 40 [some (.ref 0), some (.int a), some (.int (Int32.ofInt (rz_hm (rz_db hb np) hb (p - 1)))), some (.int (Int32.ofInt (rz_db hb np (rz_hm (rz_db hb np) hb (p - 1))))), some (.int (nI p)), o5, o6] [] σ = ra_I (if a = 0 then Int32.ofInt (rz_hm (rz_db hb np) hb (np - 1)) else Int32.ofInt (rz_db hb np (rz_hm (rz_db hb np) hb (np - 1)))) σ := by
      intro d
      induction d with
      | zero =>
        intro p hp p1 o5 o6
        have : p = np := by omega
        subst this
        rw [e_126_40, c1, rz_inl (by omega) (by omega)]
        split <;> rfl
      | succ d ih =>
        intro p hp p1 o5 o6
        have i := ih (p + 1) (by omega) (by omega)
        have hm1 := hmi (p - 1) (by omega)
        have hb1 := hbi p (by omega)
        have d1 := dbi (rz_hm (rz_db hb np) hb (p - 1)) (by omega)
        have d2 := dbi (hb p) (by omega)
        have st : rz_hm (rz_db hb np) hb p = if rz_db hb np (hb p) < rz_db hb np (rz_hm (rz_db hb np) hb (p - 1)) ∨ (rz_db hb np (hb p) = rz_db hb np (rz_hm (rz_db hb np) hb (p - 1)) ∧ hb p < rz_hm (rz_db hb np) hb (p - 1)) then hb p else rz_hm (rz_db hb np) hb (p - 1) := by
          obtain ⟨r, rfl⟩ : ∃ r, p = r + 1 := ⟨p - 1, by omega⟩
          rfl
        rw [show p + 1 - 1 = p by omega] at i
        have x1 : Int32.ofInt (rz_db hb np (hb p)) < Int32.ofInt (rz_db hb np (rz_hm (rz_db hb np) hb (p - 1))) ↔ rz_db hb np (hb p) < rz_db hb np (rz_hm (rz_db hb np) hb (p - 1)) := rz_oLt (by omega) (by omega) (by omega) (by omega)
        have x2 : Int32.ofInt (rz_db hb np (hb p)) = Int32.ofInt (rz_db hb np (rz_hm (rz_db hb np) hb (p - 1))) ↔ rz_db hb np (hb p) = rz_db hb np (rz_hm (rz_db hb np) hb (p - 1)) := by rw [← Int32.toInt_inj, rz_oI (by omega) (by omega), rz_oI (by omega) (by omega)]
        have x3 : Int32.ofInt (hb p) < Int32.ofInt (rz_hm (rz_db hb np) hb (p - 1)) ↔ hb p < rz_hm (rz_db hb np) hb (p - 1) := rz_oLt (by omega) (by omega) (by omega) (by omega)
        rw [e_126_40, c1, rz_il (by omega) (by omega), ch p (by omega), ra_kI, cd (hb p) (by omega), ra_kI, e_126_89, nI_1]
        by_cases y1 : rz_db hb np (hb p) < rz_db hb np (rz_hm (rz_db hb np) hb (p - 1))
        · rw [if_pos (Or.inl y1)] at st
          rw [st] at i
          rw [if_pos (x1.mpr y1)]
          exact i _ _
        · rw [if_neg (fun w => y1 (x1.mp w))]
          by_cases y2 : rz_db hb np (hb p) = rz_db hb np (rz_hm (rz_db hb np) hb (p - 1))
          · rw [if_pos (x2.mpr y2)]
            by_cases y3 : hb p < rz_hm (rz_db hb np) hb (p - 1)
            · rw [if_pos (Or.inr ⟨y2, y3⟩)] at st
              rw [st] at i
              rw [if_pos (x3.mpr y3)]
              exact i _ _
            · rw [if_neg (fun w => by rcases w with w | w; exact y1 w; exact y3 w.2)] at st
              rw [st] at i
              rw [if_neg (fun w => y3 (x3.mp w))]
              exact i _ _
          · rw [if_neg (fun w => by rcases w with w | w; exact y1 w; exact y2 w.1)] at st
            rw [st] at i
            rw [if_neg (fun w => y2 (x2.mp w))]
            exact i _ _
    have kbi : ∀ m, m ≤ 1000 → -500 ≤ rz_kb (rz_db hb np) m ∧ rz_kb (rz_db hb np) m ≤ 500 := fun m hm => by
      have := (rz_kb_sp (rz_db hb np) m).1
      omega
    have lm : ∀ d m, m + d = 1000 → ra_D (ra_lay, none, 99999, ra_m243) 33 [some (.ref 86), some (.int a), some (.int (Int32.ofInt (rz_kb (rz_db hb np) m))), some (.int (Int32.ofInt (-499 + (m : Int))))] [] (ra_ui σ 86 2 0) = ra_I (if a = 0 then Int32.ofInt (rz_kb (rz_db hb np) 1000) else Int32.ofInt (rz_db hb np (rz_kb (rz_db hb np) 1000))) (ra_ui σ 86 2 0) := by
      intro d
      induction d with
      | zero =>
        intro m hm
        have : m = 1000 := by omega
        subst this
        have := kbi 1000 (by omega)
        rw [e_243_33, if_neg (by decide), md _ (by omega), ra_kI]
        split <;> rfl
      | succ d ih =>
        intro m hm
        have k1 := kbi m (by omega)
        have d1 := dbi (rz_kb (rz_db hb np) m) (by omega)
        have d2 := dbi (-499 + (m : Int)) (by omega)
        have i := ih (m + 1) (by omega)
        rw [show (-499 + ((m + 1 : Nat) : Int)) = -499 + (m : Int) + 1 by omega] at i
        rw [rz_kb, show (-500 + ((m + 1 : Nat) : Int)) = -499 + (m : Int) by omega] at i
        rw [e_243_33, if_pos (show Int32.ofInt (-499 + (m : Int)) < (501 : Int32) from (rz_oLt (b := 501) (by omega) (by omega) (by omega) (by omega)).mpr (by omega)), md _ (by omega), ra_kI, md _ (by omega), ra_kI, show Int32.ofInt (-499 + (m : Int)) + (1 : Int32) = Int32.ofInt (-499 + (m : Int) + 1) from (Int32.ofInt_add _ 1).symm]
        by_cases y : rz_db hb np (-499 + (m : Int)) < rz_db hb np (rz_kb (rz_db hb np) m)
        · rw [if_pos y] at i
          rw [if_pos ((rz_oLt (by omega) (by omega) (by omega) (by omega)).mpr y)]
          exact i
        · rw [if_neg y] at i
          rw [if_neg (fun w => y ((rz_oLt (by omega) (by omega) (by omega) (by omega)).mp w))]
          exact i
    have eq := rz_clear_eq (hb := hb) (np := np) (by omega) hbi
    refine ⟨if a = 0 then Int32.ofInt (rz_kb (rz_db hb np) 1000) else Int32.ofInt (rz_db hb np (rz_kb (rz_db hb np) 1000)), σ, ra_ui σ 86 2 0, ?_, ?_, rz_R_ft f0' h⟩
    · rw [e_126, c1, if_neg nz, rz_c_in _ _ 0 1 rfl rfl, ra_kI, rz_t v2, show ra_C 127 [.ref 0, .int 0] σ = ra_I (Int32.ofInt (hb 0)) σ from ch 0 (by omega), ra_kI, cd (hb 0) (by have := hbi 0 (by omega); omega), ra_kI, ← eq]
      exact lc (np - 1) 1 (by omega) (by omega) _ _
    · rw [e_243, c2, if_neg nz, rz_m_in _ _ 0 1 rfl rfl, ra_kI, rz_t v2]
      exact lm 1000 0 (by omega)
  · refine ⟨-2147483648, σ, ra_ui σ 86 2 0, ?_, ?_, rz_R_ft f0' h⟩
    · rw [e_126, c1, if_neg nz, rz_c_in _ _ 0 1 rfl rfl, ra_kI, rz_f v2]
    · rw [e_243, c2, if_neg nz, rz_m_in _ _ 0 1 rfl rfl, ra_kI, rz_f v2]
