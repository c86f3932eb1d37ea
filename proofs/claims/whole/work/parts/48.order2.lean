-- ===== the next of all ways =====
def rz_rs (g : Nat → Nat) : Nat → Option Nat
  | 0 => none
  | k + 1 => if g (k + 1) < g k then rz_rs g k else some k
theorem rz_rs_sp {g : Nat → Nat} {r : Nat} : ∀ k, rz_rs g k = some r → r < k ∧ ¬ g (r + 1) < g r
  | 0, h => by cases h
  | k + 1, h => by
    rw [rz_rs] at h
    by_cases z : g (k + 1) < g k
    · rw [if_pos z] at h
      have := rz_rs_sp k h
      exact ⟨by omega, this.2⟩
    · rw [if_neg z] at h
      cases h
      exact ⟨by omega, z⟩
def rz_av (g : Nat → Nat) (r : Nat) : Nat → Nat
  | 0 => 0
  | l + 1 => if g (l + 1) < g r then rz_av g r l else l + 1
theorem rz_av_in {g : Nat → Nat} {r : Nat} (h : ¬ g (r + 1) < g r) : ∀ l, r + 1 ≤ l → r + 1 ≤ rz_av g r l ∧ rz_av g r l ≤ l
  | 0, hl => by omega
  | l + 1, hl => by
    rw [rz_av]
    by_cases z : g (l + 1) < g r
    · rw [if_pos z]
      have : l ≠ r := fun y => by subst y; exact h z
      have := rz_av_in h l (by omega)
      omega
    · rw [if_neg z]; omega
def rz_rv : Nat → Nat → Nat → List Nat → List Nat
  | 0, _, _, L => L
  | d + 1, lo, hi, L => if lo < hi then rz_rv d (lo + 1) (hi - 1) (rz_sw2 L lo hi) else L
theorem rz_va_rv {np : Nat} : ∀ d lo hi L, rz_va np L → hi < np → rz_va np (rz_rv d lo hi L)
  | 0, _, _, _, h, _ => h
  | d + 1, lo, hi, L, h, hh => by
    rw [rz_rv]
    by_cases z : lo < hi
    · rw [if_pos z]; exact rz_va_rv d (lo + 1) (hi - 1) _ (rz_va_sw h (by omega) hh) (by omega)
    · rw [if_neg z]; exact h
def rz_nw (np : Nat) (L : List Nat) : Option (List Nat) := match rz_rs (fun q => L.getD q q) (np - 1) with
  | none => none
  | some r => some (rz_rv 8 (r + 1) (np - 1) (rz_sw2 L r (rz_av (fun q => L.getD q q) r (np - 1))))
theorem rz_va_nw {np : Nat} {L L' : List Nat} (h : rz_va np L) (h0 : 0 < np) (e : rz_nw np L = some L') : rz_va np L' := by
  unfold rz_nw at e
  cases q : rz_rs (fun q => L.getD q q) (np - 1) with
  | none => rw [q] at e; cases e
  | some r =>
    rw [q] at e
    cases e
    obtain ⟨r1, r2⟩ := rz_rs_sp (np - 1) q
    have := rz_av_in (g := fun q => L.getD q q) (r := r) r2 (np - 1) (by omega)
    exact rz_va_rv _ _ _ _ (rz_va_sw h (by omega) (by omega)) (by omega)
/-- how the class changes two -/
theorem rz_c_sw {np : Nat} {L : List Nat} (hL : rz_va np L) (hn : np ≤ 8) {τ : ra_S} (h83 : ∀ q, q < 8 → τ.1 83 q = nI (L.getD q q)) {i j : Nat} (hi : i < np) (hj : j < np) : ∃ υ : ra_S, ra_C 65 [.ref 82, .int (nI i), .int (nI j)] τ = ra_V υ ∧ (∀ c, c ≠ 83 → υ.1 c = τ.1 c) ∧ υ.2 = τ.2 ∧ ∀ q, q < 8 → υ.1 83 q = nI ((rz_sw2 L i j).getD q q) := by
  refine ⟨ra_ui (ra_ui τ 83 i (τ.1 83 j)) 83 j (τ.1 83 i), ?_, fun c hc => by rw [ra_ui_1 c hc, ra_ui_1 c hc], rfl, fun q hq => ?_⟩
  · rw [e_65, if_neg (nI_pos (by omega)), if_neg (nI_pos (by omega)), show (8 : Int32) = nI 8 from rfl, rz_il (by omega) (by omega), rz_il (by omega) (by omega)]
    repeat rw [rz_ig (by omega) (by omega)]
    rw [nI_clamp (by omega), nI_clamp (by omega)]
  · rw [rz_sw2_get (by rw [hL.1]; exact hi) (by rw [hL.1]; exact hj)]
    simp only [ra_ui_get, true_and]
    by_cases z : q = j
    · rw [if_pos z, if_pos z, h83 i (by omega)]
    · rw [if_neg z, if_neg z]
      by_cases y : q = i
      · rw [if_pos y, if_pos y, h83 j (by omega)]
      · rw [if_neg y, if_neg y]; exact h83 q hq
theorem rz_m_sw {np : Nat} {L : List Nat} (hL : rz_va np L) (hn : np ≤ 8) {τ : ra_S} (h113 : ∀ q, q < np → τ.1 113 q = nI (L.getD q q)) {i j : Nat} (hi : i < np) (hj : j < np) : ∃ υ : ra_S, ra_C 235 [.ref 86, .int (nI i), .int (nI j)] τ = ra_V υ ∧ (∀ c, c ≠ 113 → υ.1 c = τ.1 c) ∧ υ.2 = τ.2 ∧ ∀ q, q < np → υ.1 113 q = nI ((rz_sw2 L i j).getD q q) := by
  refine ⟨ra_ui (ra_ui τ 113 i (τ.1 113 j)) 113 j (τ.1 113 i), ?_, fun c hc => by rw [ra_ui_1 c hc, ra_ui_1 c hc], rfl, fun q hq => ?_⟩
  · rw [e_235]
    repeat rw [rz_ig (by omega) (by omega)]
    rw [nI_clamp (by omega), nI_clamp (by omega)]
  · rw [rz_sw2_get (by rw [hL.1]; exact hi) (by rw [hL.1]; exact hj)]
    simp only [ra_ui_get, true_and]
    by_cases z : q = j
    · rw [if_pos z, if_pos z, h113 i hi]
    · rw [if_neg z, if_neg z]
      by_cases y : q = i
      · rw [if_pos y, if_pos y, h113 j hj]
      · rw [if_neg y, if_neg y]; exact h113 q hq
theorem rz_m1 (k : Nat) : nI k + (-1 : Int32) = nI k - 1 := (Int32.sub_eq_add_neg _ _).symm
set_option maxHeartbeats 2000000 in
theorem rz_c_nw {np : Nat} {L : List Nat} (hL : rz_va np L) (h0 : 0 < np) (hn : np ≤ 8) {τ : ra_S} (h82 : τ.1 82 0 = nI np) (h83 : ∀ q, q < 8 → τ.1 83 q = nI (L.getD q q)) : (rz_nw np L = none ∧ ra_C 66 [.ref 82] τ = ra_I 0 τ) ∨ ∃ (L' : List Nat) (υ : ra_S), rz_nw np L = some L' ∧ ra_C 66 [.ref 82] τ = ra_I 1 υ ∧ (∀ c, c ≠ 83 → υ.1 c = τ.1 c) ∧ υ.2 = τ.2 ∧ ∀ q, q < 8 → υ.1 83 q = nI (L'.getD q q) := by
  have gl : ∀ q, q < np → L.getD q q < 2147483648 := fun q hq => by have := rz_va_get hL hq; omega
  have rev : ∀ d lo hi (L1 : List Nat) (υ : ra_S) (o1 o2 : Option Value), lo + d ≤ 100 → hi ≤ lo + d → hi < np → rz_va np L1 → (∀ c, c ≠ 83 → υ.1 c = τ.1 c) → υ.2 = τ.2 → (∀ q, q < 8 → υ.1 83 q = nI (L1.getD q q)) → ∃ υ2 : ra_S, ra_D (ra_lay, none, 99999, ra_m66) 91 [some (.ref 82), o1, o2, some (.int (nI lo)), some (.int (nI hi))] [] υ = ra_I 1 υ2 ∧ (∀ c, c ≠ 83 → υ2.1 c = τ.1 c) ∧ υ2.2 = τ.2 ∧ ∀ q, q < 8 → υ2.1 83 q = nI ((rz_rv d lo hi L1).getD q q) := by
    intro d
    induction d with
    | zero =>
      intro lo hi L1 υ o1 o2 hlo hd hh v1 g1 g2 g3
      rw [e_66_91, rz_inl (by omega) (by omega)]
      exact ⟨υ, rfl, g1, g2, g3⟩
    | succ d ih =>
      intro lo hi L1 υ o1 o2 hlo hd hh v1 g1 g2 g3
      rw [rz_rv]
      by_cases z : lo < hi
      · obtain ⟨υ2, e2, k1, k2, k3⟩ := rz_c_sw v1 hn g3 (i := lo) (j := hi) (by omega) hh
        rw [if_pos z, e_66_91, rz_il (by omega) z, e2, ra_kV, nI_1, rz_m1, show nI hi - (1 : Int32) = nI (hi - 1) from pk_sub (a := hi) (b := 1) (by omega)]
        exact ih (lo + 1) (hi - 1) _ υ2 o1 o2 (by omega) (by omega) (by omega) (rz_va_sw v1 (by omega) hh) (fun c hc => by rw [k1 c hc]; exact g1 c hc) (by rw [k2, g2]) k3
      · rw [if_neg z, e_66_91]
        rw [rz_inl (by omega) (by omega)]
        exact ⟨υ, rfl, g1, g2, g3⟩
  have above : ∀ (r : Nat), r + 1 < np → ¬ L.getD (r + 1) (r + 1) < L.getD r r → ∀ l, r + 1 ≤ l → l < np → ∀ o3 o4 : Option Value, ra_D (ra_lay, none, 99999, ra_m66) 47 [some (.ref 82), some (.int (nI r)), some (.int (nI l)), o3, o4] [] τ = ra_D (ra_lay, none, 99999, ra_m66) 73 [some (.ref 82), some (.int (nI r)), some (.int (nI (rz_av (fun q => L.getD q q) r l))), o3, o4] [] τ := by
    intro r hr hrr l
    induction l with
    | zero => intro h; omega
    | succ l ih =>
      intro h1 h2 o3 o4
      rw [e_66_47, rz_il (by omega) (by omega), rz_ig (by omega) (by omega), rz_ig (by omega) (by omega), nI_clamp (by omega), nI_clamp (by omega), h83 _ (by omega), h83 _ (by omega), rz_av]
      by_cases z : L.getD (l + 1) (l + 1) < L.getD r r
      · have : l ≠ r := fun y => hrr (by rw [← y]; rw [← y] at z; exact z)
        rw [if_pos z, rz_il (gl r (by omega)) z, rz_m1, nI_pred]
        exact ih (by omega) (by omega) o3 o4
      · rw [if_neg z, rz_inl (gl (l + 1) (by omega)) (by omega)]
  have rise : ∀ k, k < np → ∀ o2 o3 o4 : Option Value, (rz_rs (fun q => L.getD q q) k = none ∧ ra_D (ra_lay, none, 99999, ra_m66) 7 [some (.ref 82), some (.int (nI k - 1)), o2, o3, o4] [] τ = ra_I 0 τ) ∨ ∃ r, rz_rs (fun q => L.getD q q) k = some r ∧ ra_D (ra_lay, none, 99999, ra_m66) 7 [some (.ref 82), some (.int (nI k - 1)), o2, o3, o4] [] τ = ra_D (ra_lay, none, 99999, ra_m66) 34 [some (.ref 82), some (.int (nI r)), o2, o3, o4] [] τ := by
    intro k
    induction k with
    | zero => intro _ o2 o3 o4; exact Or.inl ⟨rfl, by rw [e_66_7, if_pos (by decide), e_66_34, if_pos (by decide)]⟩
    | succ k ih =>
      intro hk o2 o3 o4
      rw [nI_pred, e_66_7, if_neg (nI_pos (by omega)), nI_1, rz_ig (by omega) (by omega), rz_ig (by omega) (by omega), nI_clamp (by omega), nI_clamp (by omega), h83 _ (by omega), h83 _ (by omega), rz_rs, rz_m1]
      by_cases z : L.getD (k + 1) (k + 1) < L.getD k k
      · rw [if_pos z, rz_il (gl k (by omega)) z]
        exact ih (by omega) o2 o3 o4
      · rw [if_neg z, rz_inl (gl (k + 1) (by omega)) (by omega)]
        exact Or.inr ⟨k, rfl, rfl⟩
  have s2 : nI np - (2 : Int32) = nI (np - 1) - 1 := by
    rw [show nI (np - 1) = nI np - nI 1 from (pk_sub (a := np) (b := 1) (by omega)).symm]
    show nI np - (2 : Int32) = nI np - (1 : Int32) - (1 : Int32)
    rw [Int32.sub_sub]; rfl
  rcases rise (np - 1) (by omega) none none none with ⟨q1, q2⟩ | ⟨r, q1, q2⟩
  · left
    refine ⟨by unfold rz_nw; rw [q1], ?_⟩
    rw [e_66, h82, s2]; exact q2
  · right
    obtain ⟨r1, r2⟩ := rz_rs_sp (np - 1) q1
    have av := rz_av_in (g := fun q => L.getD q q) (r := r) r2 (np - 1) (by omega)
    obtain ⟨υ1, e1, k1, k2, k3⟩ := rz_c_sw hL hn h83 (i := r) (j := rz_av (fun q => L.getD q q) r (np - 1)) (by omega) (by omega)
    obtain ⟨υ2, e2, m1, m2, m3⟩ := rev 8 (r + 1) (np - 1) _ υ1 (some (.int (nI r))) (some (.int (nI (rz_av (fun q => L.getD q q) r (np - 1))))) (by omega) (by omega) (by omega) (rz_va_sw hL (by omega) (by omega)) k1 k2 k3
    refine ⟨_, υ2, by unfold rz_nw; rw [q1], ?_, m1, m2, m3⟩
    have n1 : nI np - (1 : Int32) = nI (np - 1) := pk_sub (a := np) (b := 1) (by omega)
    rw [e_66, h82, s2, q2, e_66_34, if_neg (nI_pos (by omega)), h82, n1, above r (by omega) r2 (np - 1) (by omega) (by omega), e_66_73, e1, ra_kV, k1 82 (by decide), h82, n1, nI_1]
    exact e2
set_option maxHeartbeats 2000000 in
theorem rz_m_nw {np : Nat} {L : List Nat} (hL : rz_va np L) (h0 : 0 < np) (hn : np ≤ 8) {τ : ra_S} (h82 : τ.1 86 14 = nI np) (h83 : ∀ q, q < np → τ.1 113 q = nI (L.getD q q)) : (rz_nw np L = none ∧ ra_C 234 [.ref 86] τ = ra_I 0 τ) ∨ ∃ (L' : List Nat) (υ : ra_S), rz_nw np L = some L' ∧ ra_C 234 [.ref 86] τ = ra_I 1 υ ∧ (∀ c, c ≠ 113 → υ.1 c = τ.1 c) ∧ υ.2 = τ.2 ∧ ∀ q, q < np → υ.1 113 q = nI (L'.getD q q) := by
  have gl : ∀ q, q < np → L.getD q q < 2147483648 := fun q hq => by have := rz_va_get hL hq; omega
  have rev : ∀ d lo hi (L1 : List Nat) (υ : ra_S) (o1 o2 : Option Value), lo + d ≤ 100 → hi ≤ lo + d → hi < np → rz_va np L1 → (∀ c, c ≠ 113 → υ.1 c = τ.1 c) → υ.2 = τ.2 → (∀ q, q < np → υ.1 113 q = nI (L1.getD q q)) → ∃ υ2 : ra_S, ra_D (ra_lay, none, 99999, ra_m234) 86 [some (.ref 86), o1, o2, some (.int (nI lo)), some (.int (nI hi))] [] υ = ra_I 1 υ2 ∧ (∀ c, c ≠ 113 → υ2.1 c = τ.1 c) ∧ υ2.2 = τ.2 ∧ ∀ q, q < np → υ2.1 113 q = nI ((rz_rv d lo hi L1).getD q q) := by
    intro d
    induction d with
    | zero =>
      intro lo hi L1 υ o1 o2 hlo hd hh v1 g1 g2 g3
      rw [e_234_86, rz_inl (by omega) (by omega)]
      exact ⟨υ, rfl, g1, g2, g3⟩
    | succ d ih =>
      intro lo hi L1 υ o1 o2 hlo hd hh v1 g1 g2 g3
      rw [rz_rv]
      by_cases z : lo < hi
      · obtain ⟨υ2, e2, k1, k2, k3⟩ := rz_m_sw v1 hn g3 (i := lo) (j := hi) (by omega) hh
        rw [if_pos z, e_234_86, rz_il (by omega) z, e2, ra_kV, nI_1, rz_m1, show nI hi - (1 : Int32) = nI (hi - 1) from pk_sub (a := hi) (b := 1) (by omega)]
        exact ih (lo + 1) (hi - 1) _ υ2 o1 o2 (by omega) (by omega) (by omega) (rz_va_sw v1 (by omega) hh) (fun c hc => by rw [k1 c hc]; exact g1 c hc) (by rw [k2, g2]) k3
      · rw [if_neg z, e_234_86]
        rw [rz_inl (by omega) (by omega)]
        exact ⟨υ, rfl, g1, g2, g3⟩
  have above : ∀ (r : Nat), r + 1 < np → ¬ L.getD (r + 1) (r + 1) < L.getD r r → ∀ l, r + 1 ≤ l → l < np → ∀ o3 o4 : Option Value, ra_D (ra_lay, none, 99999, ra_m234) 47 [some (.ref 86), some (.int (nI r)), some (.int (nI l)), o3, o4] [] τ = (ra_C 235 [.ref 86, .int (nI r), .int (nI (rz_av (fun q => L.getD q q) r l))] τ).bind (ra_kv fun s1 => ra_D (ra_lay, none, 99999, ra_m234) 86 [some (.ref 86), some (.int (nI r)), some (.int (nI (rz_av (fun q => L.getD q q) r l))), some (.int (nI r + 1)), some (.int (s1.1 86 14 - 1))] [] s1) := by
    intro r hr hrr l
    induction l with
    | zero => intro h; omega
    | succ l ih =>
      intro h1 h2 o3 o4
      rw [e_234_47, rz_ig (by omega) (by omega), rz_ig (by omega) (by omega), nI_clamp (by omega), nI_clamp (by omega), h83 _ (by omega), h83 _ (by omega), rz_av]
      by_cases z : L.getD (l + 1) (l + 1) < L.getD r r
      · have : l ≠ r := fun y => hrr (by rw [← y]; rw [← y] at z; exact z)
        rw [if_pos z, rz_il (gl r (by omega)) z, rz_m1, nI_pred]
        exact ih (by omega) (by omega) o3 o4
      · rw [if_neg z, rz_inl (gl (l + 1) (by omega)) (by omega)]
  have rise : ∀ k, k < np → ∀ o2 o3 o4 : Option Value, (rz_rs (fun q => L.getD q q) k = none ∧ ra_D (ra_lay, none, 99999, ra_m234) 7 [some (.ref 86), some (.int (nI k - 1)), o2, o3, o4] [] τ = ra_I 0 τ) ∨ ∃ r, rz_rs (fun q => L.getD q q) k = some r ∧ ra_D (ra_lay, none, 99999, ra_m234) 7 [some (.ref 86), some (.int (nI k - 1)), o2, o3, o4] [] τ = ra_D (ra_lay, none, 99999, ra_m234) 34 [some (.ref 86), some (.int (nI r)), o2, o3, o4] [] τ := by
    intro k
    induction k with
    | zero => intro _ o2 o3 o4; exact Or.inl ⟨rfl, by rw [e_234_7, if_pos (by decide), e_234_34, if_pos (by decide)]⟩
    | succ k ih =>
      intro hk o2 o3 o4
      rw [nI_pred, e_234_7, if_neg (nI_pos (by omega)), nI_1, rz_ig (by omega) (by omega), rz_ig (by omega) (by omega), nI_clamp (by omega), nI_clamp (by omega), h83 _ (by omega), h83 _ (by omega), rz_rs, rz_m1]
      by_cases z : L.getD (k + 1) (k + 1) < L.getD k k
      · rw [if_pos z, rz_il (gl k (by omega)) z]
        exact ih (by omega) o2 o3 o4
      · rw [if_neg z, rz_inl (gl (k + 1) (by omega)) (by omega)]
        exact Or.inr ⟨k, rfl, rfl⟩
  have s2 : nI np - (2 : Int32) = nI (np - 1) - 1 := by
    rw [show nI (np - 1) = nI np - nI 1 from (pk_sub (a := np) (b := 1) (by omega)).symm]
    show nI np - (2 : Int32) = nI np - (1 : Int32) - (1 : Int32)
    rw [Int32.sub_sub]; rfl
  rcases rise (np - 1) (by omega) none none none with ⟨q1, q2⟩ | ⟨r, q1, q2⟩
  · left
    refine ⟨by unfold rz_nw; rw [q1], ?_⟩
    rw [e_234, h82, s2]; exact q2
  · right
    obtain ⟨r1, r2⟩ := rz_rs_sp (np - 1) q1
    have av := rz_av_in (g := fun q => L.getD q q) (r := r) r2 (np - 1) (by omega)
    obtain ⟨υ1, e1, k1, k2, k3⟩ := rz_m_sw hL hn h83 (i := r) (j := rz_av (fun q => L.getD q q) r (np - 1)) (by omega) (by omega)
    obtain ⟨υ2, e2, m1, m2, m3⟩ := rev 8 (r + 1) (np - 1) _ υ1 (some (.int (nI r))) (some (.int (nI (rz_av (fun q => L.getD q q) r (np - 1))))) (by omega) (by omega) (by omega) (rz_va_sw hL (by omega) (by omega)) k1 k2 k3
    refine ⟨_, υ2, by unfold rz_nw; rw [q1], ?_, m1, m2, m3⟩
    have n1 : nI np - (1 : Int32) = nI (np - 1) := pk_sub (a := np) (b := 1) (by omega)
    rw [e_234, h82, s2, q2, e_234_34, if_neg (nI_pos (by omega)), h82, n1, above r (by omega) r2 (np - 1) (by omega) (by omega), e1, ra_kV, k1 86 (by decide), h82, n1, nI_1]
    exact e2
