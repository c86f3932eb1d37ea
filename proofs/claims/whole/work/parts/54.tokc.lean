-- ===== text: one token, the class =====
def rz_ns (v d : Nat) : Nat := if 10 * v + d < 10000 then 10 * v + d else 10000
def rz_nvl (t : Nat → Nat) (a : Nat) : Nat → Nat
  | 0 => 0
  | k + 1 => rz_ns (rz_nvl t a k) (t (a + k) - 48)
/-- a number that was read: beyond 9999 only that -/
def rz_nq (x : Int32) (v : Nat) : Prop := (v < 10000 ∧ x = nI v) ∨ (v = 10000 ∧ ∃ m : Nat, x = nI m ∧ 10000 ≤ m ∧ m ≤ 1000000)
/-- what a token is: code and value -/
def rz_tkP (t : Nat → Nat) (N n : Nat) (k : Nat × Nat) (pl nx : Nat) : Prop := pl = rz_run (rz_isB t) (N - n) n ∧
  ((pl = N ∧ k = (0, 0) ∧ nx = pl) ∨
   (pl < N ∧ rz_isL t pl ∧ nx = rz_run (rz_isL t) (N - pl) pl ∧ ((6 < nx - pl ∧ k = (1, 0)) ∨ (nx - pl ≤ 6 ∧ ∃ w, w < 11 ∧ rz_eqw t pl (nx - pl) w ∧ k = (6, w)) ∨ (nx - pl ≤ 6 ∧ (∀ w, w < 11 → ¬ rz_eqw t pl (nx - pl) w) ∧ k = (3, rz_pk t pl (nx - pl))))) ∨
   (pl < N ∧ ¬ rz_isL t pl ∧ rz_isN t pl ∧ nx = rz_run (rz_isN t) (N - pl) pl ∧ k = (2, rz_nvl t pl (nx - pl))) ∨
   (pl < N ∧ ¬ rz_isL t pl ∧ ¬ rz_isN t pl ∧ nx = pl + 1 ∧ k = if t pl = 45 then (4, 0) else if t pl = 59 then (5, 0) else (1, 0)))
theorem rz_tk_ex (t : Nat → Nat) {N n : Nat} (h : n ≤ N) : ∃ k pl nx, rz_tkP t N n k pl nx ∧ nx ≤ N ∧ pl ≤ N ∧ n ≤ pl ∧ (k.1 ≠ 0 → pl < nx) := by
  have r1 := rz_run_le (rz_isB t) (N - n) n
  have e : rz_run (rz_isB t) (N - n) n ≤ N := by omega
  generalize hp : rz_run (rz_isB t) (N - n) n = pl at r1 e
  by_cases z : pl = N
  · exact ⟨(0, 0), pl, pl, ⟨hp.symm, Or.inl ⟨z, rfl, rfl⟩⟩, e, e, r1.1, fun q => absurd rfl q⟩
  · have hl : pl < N := by omega
    by_cases y : rz_isL t pl
    · have r2 := rz_run_le (rz_isL t) (N - pl) pl
      have r3 : pl < rz_run (rz_isL t) (N - pl) pl := by
        obtain ⟨d, hd⟩ : ∃ d, N - pl = d + 1 := ⟨N - pl - 1, by omega⟩
        rw [hd, rz_run, if_pos y]
        have := rz_run_le (rz_isL t) d (pl + 1)
        omega
      generalize hx : rz_run (rz_isL t) (N - pl) pl = nx at r2 r3
      by_cases c : 6 < nx - pl
      · exact ⟨(1, 0), pl, nx, ⟨hp.symm, Or.inr (Or.inl ⟨hl, y, hx.symm, Or.inl ⟨c, rfl⟩⟩)⟩, by omega, e, r1.1, fun _ => r3⟩
      · by_cases c2 : ∃ w, w < 11 ∧ rz_eqw t pl (nx - pl) w
        · obtain ⟨w, c3, c4⟩ := c2
          exact ⟨(6, w), pl, nx, ⟨hp.symm, Or.inr (Or.inl ⟨hl, y, hx.symm, Or.inr (Or.inl ⟨by omega, w, c3, c4, rfl⟩)⟩)⟩, by omega, e, r1.1, fun _ => r3⟩
        · exact ⟨(3, rz_pk t pl (nx - pl)), pl, nx, ⟨hp.symm, Or.inr (Or.inl ⟨hl, y, hx.symm, Or.inr (Or.inr ⟨by omega, fun w hw hq => c2 ⟨w, hw, hq⟩, rfl⟩)⟩)⟩, by omega, e, r1.1, fun _ => r3⟩
    · by_cases x : rz_isN t pl
      · have r2 := rz_run_le (rz_isN t) (N - pl) pl
        have r3 : pl < rz_run (rz_isN t) (N - pl) pl := by
          obtain ⟨d, hd⟩ : ∃ d, N - pl = d + 1 := ⟨N - pl - 1, by omega⟩
          rw [hd, rz_run, if_pos x]
          have := rz_run_le (rz_isN t) d (pl + 1)
          omega
        exact ⟨_, pl, _, ⟨hp.symm, Or.inr (Or.inr (Or.inl ⟨hl, y, x, rfl, rfl⟩))⟩, by omega, e, r1.1, fun _ => r3⟩
      · exact ⟨_, pl, pl + 1, ⟨hp.symm, Or.inr (Or.inr (Or.inr ⟨hl, y, x, rfl, rfl⟩))⟩, by omega, e, r1.1, fun _ => by omega⟩
def rz_Tc (t : Nat → Nat) (N n : Nat) (τ : ra_S) : Prop := τ.1 2 3 = nI N ∧ N ≤ 800 ∧ τ.1 2 4 = nI n ∧ n ≤ N ∧ (∀ i, i < N → τ.1 3 i = nI (t i) ∧ t i ≤ 255) ∧ ∀ i, i < 11 → τ.1 4 i = rz_words.getD i 0
def rz_f2 (τ υ : ra_S) : Prop := (∀ c, c ≠ 2 → υ.1 c = τ.1 c) ∧ (∀ k, k < 4 ∨ 8 ≤ k → υ.1 2 k = τ.1 2 k) ∧ υ.2 = τ.2
theorem rz_f2.rf (τ : ra_S) : rz_f2 τ τ := ⟨fun _ _ => rfl, fun _ _ => rfl, rfl⟩
theorem rz_f2.tr {τ υ ψ : ra_S} (h : rz_f2 τ υ) (g : rz_f2 υ ψ) : rz_f2 τ ψ := ⟨fun c hc => (g.1 c hc).trans (h.1 c hc), fun k hk => (g.2.1 k hk).trans (h.2.1 k hk), g.2.2.trans h.2.2⟩
theorem rz_f2.ui {τ υ : ra_S} (h : rz_f2 τ υ) {k : Nat} {x : Int32} (hk : 4 ≤ k ∧ k ≤ 7) : rz_f2 τ (ra_ui υ 2 k x) := ⟨fun c hc => by rw [ra_ui_1 c hc]; exact h.1 c hc, fun j hj => by rw [ra_ui_get, if_neg (fun q => by omega)]; exact h.2.1 j hj, h.2.2⟩
theorem rz_Tc_ui {t : Nat → Nat} {N n : Nat} {τ : ra_S} (h : rz_Tc t N n τ) {k : Nat} {x : Int32} (hk : 5 ≤ k) : rz_Tc t N n (ra_ui τ 2 k x) := by
  obtain ⟨h1, h2, h3, h4, h5, h6⟩ := h
  exact ⟨by rw [ra_ui_get, if_neg (fun q => by omega)]; exact h1, h2, by rw [ra_ui_get, if_neg (fun q => by omega)]; exact h3, h4, by rw [ra_ui_1 3 (by decide)]; exact h5, by rw [ra_ui_1 4 (by decide)]; exact h6⟩
theorem rz_Tc_n {t : Nat → Nat} {N n m : Nat} {τ : ra_S} (h : rz_Tc t N n τ) (hm : m ≤ N) : rz_Tc t N m (ra_ui τ 2 4 (nI m)) := by
  obtain ⟨h1, h2, h3, h4, h5, h6⟩ := h
  exact ⟨by rw [ra_ui_get, if_neg (fun q => by omega)]; exact h1, h2, by rw [ra_ui_get, if_pos ⟨rfl, rfl⟩], hm, by rw [ra_ui_1 3 (by decide)]; exact h5, by rw [ra_ui_1 4 (by decide)]; exact h6⟩
theorem rz_lit {α : Type} {a b : Nat} {x y : α} (ha : a < 2147483648) (hb : b < 2147483648) : (if nI a = nI b then x else y) = if a = b then x else y := by
  by_cases z : a = b
  · rw [if_pos z, if_pos (by rw [z])]
  · rw [if_neg z, if_neg (fun w => z (rz_nI_inj ha hb w))]
theorem rz_ltt {α : Type} {a b : Nat} {x y : α} (ha : a < 2147483648) (hb : b < 2147483648) : (if nI a < nI b then x else y) = if a < b then x else y := by
  by_cases z : a < b
  · rw [if_pos z, rz_il hb z]
  · rw [if_neg z, rz_inl ha (by omega)]
theorem nI_nm1 {n : Nat} (h : n < 2147483648) : ¬ nI n = (-1 : Int32) := fun w => by
  have := congrArg Int32.toInt w
  rw [nI_toInt (by omega)] at this
  have e : (-1 : Int32).toInt = -1 := by decide
  omega
section RZTK
variable {t : Nat → Nat} {N : Nat}
theorem rz_c_skip : ∀ d n, n + d = N → ∀ τ : ra_S, rz_Tc t N n τ → ∃ υ : ra_S, ra_D (ra_lay, none, 99999, ra_m74) 0 [some (.ref 2), none, none] [] τ = ra_D (ra_lay, none, 99999, ra_m74) 52 [some (.ref 2), none, none] [] υ ∧ rz_Tc t N (rz_run (rz_isB t) d n) υ ∧ rz_f2 τ υ := by
  intro d
  induction d with
  | zero =>
    intro n hn τ h
    have : n = N := by omega
    subst this
    rw [e_74_0, h.2.2.1, h.1, rz_inl (by have := h.2.1; omega) (Nat.le_refl _)]
    exact ⟨τ, rfl, h, rz_f2.rf τ⟩
  | succ d ih =>
    intro n hn τ h
    obtain ⟨h1, h2, h3, h4, h5, h6⟩ := id h
    obtain ⟨b1, b2⟩ := h5 n (by omega)
    rw [e_74_0, h3, h1, rz_il (by omega) (by omega), rz_ig (by omega) (by omega), nI_clamp (by omega), b1, rz_ig (by omega) (by omega), e_74_39, show (32 : Int32) = nI 32 from rfl, show (10 : Int32) = nI 10 from rfl, rz_lit (by omega) (by omega), rz_lit (by omega) (by omega), rz_run, h3, nI_1]
    have go : ∃ υ : ra_S, ra_D (ra_lay, none, 99999, ra_m74) 0 [some (.ref 2), none, none] [] (ra_ui τ 2 4 (nI (n + 1))) = ra_D (ra_lay, none, 99999, ra_m74) 52 [some (.ref 2), none, none] [] υ ∧ rz_Tc t N (rz_run (rz_isB t) d (n + 1)) υ ∧ rz_f2 τ υ := by
      obtain ⟨υ, e, g1, g2⟩ := ih (n + 1) (by omega) _ (rz_Tc_n h (by omega))
      exact ⟨υ, e, g1, ((rz_f2.rf τ).ui (by omega)).tr g2⟩
    by_cases z : t n = 32
    · rw [if_pos z, if_pos (Or.inl z)]; exact go
    · rw [if_neg z]
      by_cases y : t n = 10
      · rw [if_pos y, if_pos (Or.inr y)]; exact go
      · rw [if_neg y, if_neg (fun q => q.elim z y)]
        exact ⟨τ, rfl, h, rz_f2.rf τ⟩
theorem rz_ltk {l k : Nat} (hl : 97 ≤ l ∧ l ≤ 122) (hk : k < 6) : ((nI l - (97 : Int32)) + (1 : Int32)) <<< (((5 : Int32) * ((5 : Int32) - nI k)) &&& 31) = nI ((l - 96) * 2 ^ (5 * (5 - k))) := by
  have e : (nI l - (97 : Int32)) + (1 : Int32) = nI (l - 96) := by
    obtain ⟨m, rfl⟩ : ∃ m, l = m + 97 := ⟨l - 97, by omega⟩
    rw [← nI_add, show (97 : Int32) = nI 97 from rfl, Int32.add_sub_cancel, nI_1, show m + 97 - 96 = m + 1 by omega]
  rw [e]
  exact rz_sh32 ⟨l - 96, by omega⟩ ⟨k, hk⟩
theorem rz_c_let (a : Nat) : ∀ d k, a + k + d = N → ∀ τ : ra_S, rz_Tc t N (a + k) τ → τ.1 2 7 = nI (rz_pk t a k) → ∃ υ : ra_S, ra_D (ra_lay, none, 99999, ra_m75) 2 [some (.ref 2), some (.int (nI k))] [] τ = ra_I (nI (rz_run (rz_isL t) d (a + k) - a)) υ ∧ rz_Tc t N (rz_run (rz_isL t) d (a + k)) υ ∧ rz_f2 τ υ ∧ υ.1 2 7 = nI (rz_pk t a (rz_run (rz_isL t) d (a + k) - a)) ∧ υ.1 2 6 = τ.1 2 6 := by
  intro d
  induction d with
  | zero =>
    intro k hk τ h hv
    obtain ⟨h1, h2, h3, h4, h5, h6⟩ := id h
    rw [e_75_2, h3, h1, rz_inl (by omega) (by omega), rz_run, show a + k - a = k by omega]
    exact ⟨τ, rfl, h, rz_f2.rf τ, hv, rfl⟩
  | succ d ih =>
    intro k hk τ h hv
    obtain ⟨h1, h2, h3, h4, h5, h6⟩ := id h
    obtain ⟨b1, b2⟩ := h5 (a + k) (by omega)
    have stop : ¬ rz_isL t (a + k) → ∃ υ : ra_S, ra_I (nI k) τ = ra_I (nI (rz_run (rz_isL t) (d + 1) (a + k) - a)) υ ∧ rz_Tc t N (rz_run (rz_isL t) (d + 1) (a + k)) υ ∧ rz_f2 τ υ ∧ υ.1 2 7 = nI (rz_pk t a (rz_run (rz_isL t) (d + 1) (a + k) - a)) ∧ υ.1 2 6 = τ.1 2 6 := fun q => by
      rw [rz_run, if_neg q, show a + k - a = k by omega]
      exact ⟨τ, rfl, h, rz_f2.rf τ, hv, rfl⟩
    rw [e_75_2, h3, h1, rz_il (by omega) (by omega), rz_ig (by omega) (by omega), nI_clamp (by omega), b1, rz_ig (by omega) (by omega), show (97 : Int32) = nI 97 from rfl, show (122 : Int32) = nI 122 from rfl, show (6 : Int32) = nI 6 from rfl, rz_ltt (by omega) (by omega), rz_ltt (by omega) (by omega), rz_ltt (by omega) (by omega), rz_ig (by omega) (by omega), e_75_76, e_75_76, hv, h3, nI_1, nI_1]
    by_cases z : t (a + k) < 97
    · rw [if_pos z]; exact stop (by omega)
    · rw [if_neg z]
      by_cases y : 122 < t (a + k)
      · rw [if_pos y]; exact stop (by omega)
      · have il : rz_isL t (a + k) := ⟨by omega, by omega⟩
        rw [if_neg y, rz_run, if_pos il]
        by_cases x : k < 6
        · rw [if_pos x, show nI 97 = (97 : Int32) from rfl, rz_ltk il x, rz_pk_or t a x il.2, show (ra_ui τ 2 7 (nI (rz_pk t a (k + 1)))).1 2 4 = nI (a + k) by rw [ra_ui_get, if_neg (by decide)]; exact h3, nI_1]
          obtain ⟨υ, e, g1, g2, g3, g4⟩ := ih (k + 1) (by omega) (ra_ui (ra_ui τ 2 7 (nI (rz_pk t a (k + 1)))) 2 4 (nI (a + k + 1))) (rz_Tc_n (rz_Tc_ui h (by omega)) (by omega)) (by rw [ra_ui_get, if_neg (by decide), ra_ui_get, if_pos ⟨rfl, rfl⟩])
          refine ⟨υ, e, g1, (((rz_f2.rf τ).ui (by omega)).ui (by omega)).tr g2, g3, ?_⟩
          rw [g4, ra_ui_get, if_neg (by decide), ra_ui_get, if_neg (by decide)]
        · rw [if_neg x]
          obtain ⟨υ, e, g1, g2, g3, g4⟩ := ih (k + 1) (by omega) (ra_ui τ 2 4 (nI (a + k + 1))) (rz_Tc_n h (by omega)) (by rw [ra_ui_get, if_neg (by decide), hv, rz_pk6 t a (n := k) (by omega), rz_pk6 t a (n := k + 1) (by omega)])
          refine ⟨υ, e, g1, ((rz_f2.rf τ).ui (by omega)).tr g2, g3, ?_⟩
          rw [g4, ra_ui_get, if_neg (by decide)]
/-- a digit more -/
theorem rz_c_dgt {x : Int32} {v l : Nat} (h : rz_nq x v) (hl : 48 ≤ l ∧ l ≤ 57) : ∃ m : Nat, x * (10 : Int32) + nI l - (48 : Int32) = nI m ∧ rz_nq (if nI 1000000 < nI m then nI 1000000 else nI m) (rz_ns v (l - 48)) := by
  have key : ∀ m : Nat, nI m * (10 : Int32) + nI l - (48 : Int32) = nI (m * 10 + (l - 48)) := fun m => by
    obtain ⟨j, rfl⟩ : ∃ j, l = j + 48 := ⟨l - 48, by omega⟩
    rw [show nI m * (10 : Int32) = nI (m * 10) from pk_mul m 10, nI_add, show m * 10 + (j + 48) = (m * 10 + j) + 48 by omega, ← nI_add (m * 10 + j) 48, show (48 : Int32) = nI 48 from rfl, Int32.add_sub_cancel, show j + 48 - 48 = j by omega]
  rcases h with ⟨h1, rfl⟩ | ⟨rfl, m, rfl, h2, h3⟩
  · refine ⟨v * 10 + (l - 48), key v, ?_⟩
    rw [rz_inl (by omega) (by omega)]
    unfold rz_ns
    by_cases z : 10 * v + (l - 48) < 10000
    · rw [if_pos z]; exact Or.inl ⟨z, by rw [Nat.mul_comm]⟩
    · rw [if_neg z]; exact Or.inr ⟨rfl, _, rfl, by omega, by omega⟩
  · refine ⟨m * 10 + (l - 48), key m, ?_⟩
    have en : rz_ns 10000 (l - 48) = 10000 := if_neg (by omega)
    rw [en]
    by_cases z : 1000000 < m * 10 + (l - 48)
    · rw [rz_il (by omega) z]; exact Or.inr ⟨rfl, _, rfl, by omega, by omega⟩
    · rw [rz_inl (by omega) (by omega)]; exact Or.inr ⟨rfl, _, rfl, by omega, by omega⟩
theorem rz_c_dig (a : Nat) : ∀ d k, a + k + d = N → ∀ τ : ra_S, rz_Tc t N (a + k) τ → rz_nq (τ.1 2 7) (rz_nvl t a k) → ∃ υ : ra_S, ra_D (ra_lay, none, 99999, ra_m76) 2 [some (.ref 2), some (.int (nI k))] [] τ = ra_I (nI (rz_run (rz_isN t) d (a + k) - a)) υ ∧ rz_Tc t N (rz_run (rz_isN t) d (a + k)) υ ∧ rz_f2 τ υ ∧ rz_nq (υ.1 2 7) (rz_nvl t a (rz_run (rz_isN t) d (a + k) - a)) ∧ υ.1 2 6 = τ.1 2 6 := by
  intro d
  induction d with
  | zero =>
    intro k hk τ h hv
    obtain ⟨h1, h2, h3, h4, h5, h6⟩ := id h
    rw [e_76_2, h3, h1, rz_inl (by omega) (by omega), rz_run, show a + k - a = k by omega]
    exact ⟨τ, rfl, h, rz_f2.rf τ, hv, rfl⟩
  | succ d ih =>
    intro k hk τ h hv
    obtain ⟨h1, h2, h3, h4, h5, h6⟩ := id h
    obtain ⟨b1, b2⟩ := h5 (a + k) (by omega)
    have stop : ¬ rz_isN t (a + k) → ∃ υ : ra_S, ra_I (nI k) τ = ra_I (nI (rz_run (rz_isN t) (d + 1) (a + k) - a)) υ ∧ rz_Tc t N (rz_run (rz_isN t) (d + 1) (a + k)) υ ∧ rz_f2 τ υ ∧ rz_nq (υ.1 2 7) (rz_nvl t a (rz_run (rz_isN t) (d + 1) (a + k) - a)) ∧ υ.1 2 6 = τ.1 2 6 := fun q => by
      rw [rz_run, if_neg q, show a + k - a = k by omega]
      exact ⟨τ, rfl, h, rz_f2.rf τ, hv, rfl⟩
    rw [e_76_2, h3, h1, rz_il (by omega) (by omega), rz_ig (by omega) (by omega), nI_clamp (by omega), b1, rz_ig (by omega) (by omega), rz_ig (by omega) (by omega), show (57 : Int32) = nI 57 from rfl, rz_ltt (by omega) (by omega)]
    by_cases z : t (a + k) < 48
    · rw [show (48 : Int32) = nI 48 from rfl, rz_il (by omega) z]; exact stop (by omega)
    · rw [if_neg (show ¬ nI (t (a + k)) < (48 : Int32) from nI_nlt (b := 48) (by omega) (by omega))]
      by_cases y : 57 < t (a + k)
      · rw [if_pos y]; exact stop (by omega)
      · have il : rz_isN t (a + k) := ⟨by omega, by omega⟩
        obtain ⟨m, em, hq⟩ := rz_c_dgt hv il
        rw [if_neg y, rz_run, if_pos il, em, rz_mid47, ra_kI, show (1000000 : Int32) = nI 1000000 from rfl, h3, nI_1, nI_1]
        obtain ⟨υ, e, g1, g2, g3, g4⟩ := ih (k + 1) (by omega) (ra_ui (ra_ui τ 2 7 (if nI 1000000 < nI m then nI 1000000 else nI m)) 2 4 (nI (a + k + 1))) (rz_Tc_n (rz_Tc_ui h (by omega)) (by omega)) (by rw [ra_ui_get, if_neg (by decide), ra_ui_get, if_pos ⟨rfl, rfl⟩]; exact hq)
        refine ⟨υ, e, g1, (((rz_f2.rf τ).ui (by omega)).ui (by omega)).tr g2, g3, ?_⟩
        rw [g4, ra_ui_get, if_neg (by decide), ra_ui_get, if_neg (by decide)]
end RZTK
theorem rz_c_fw {τ : ra_S} (h : ∀ i, i < 11 → τ.1 4 i = rz_words.getD i 0) (x : Int32) : ∃ r : Int32, ra_C 137 [.ref 4, .int 11, .int x] τ = ra_I r τ ∧ ((∃ v, v < 11 ∧ r = nI v ∧ rz_words.getD v 0 = x) ∨ (r = -1 ∧ ∀ v, v < 11 → rz_words.getD v 0 ≠ x)) := by
  have loop : ∀ d k, k + d = 11 → (∀ v, v < k → rz_words.getD v 0 ≠ x) → ∃ r : Int32, ra_D (ra_lay, none, 99999, ra_m137) 2 [some (.ref 4), some (.int 11), some (.int x), some (.int (nI k))] [] τ = ra_I r τ ∧ ((∃ v, v < 11 ∧ r = nI v ∧ rz_words.getD v 0 = x) ∨ (r = -1 ∧ ∀ v, v < 11 → rz_words.getD v 0 ≠ x)) := by
    intro d
    induction d with
    | zero =>
      intro k hk g
      have : k = 11 := by omega
      subst this
      rw [e_137d_2, if_neg (by decide)]
      exact ⟨_, rfl, Or.inr ⟨rfl, g⟩⟩
    | succ d ih =>
      intro k hk g
      rw [e_137d_2, show (11 : Int32) = nI 11 from rfl, rz_il (by omega) (by omega), rz_il (by omega) (by omega), rz_ig (by omega) (by omega), nI_clamp (by omega), h k (by omega), nI_1]
      by_cases z : rz_words.getD k 0 = x
      · rw [if_pos z]; exact ⟨_, rfl, Or.inl ⟨k, by omega, rfl, z⟩⟩
      · rw [if_neg z]
        exact ih (k + 1) (by omega) (fun v hv => by
          by_cases y : v = k
          · rw [y]; exact z
          · exact g v (by omega))
  obtain ⟨r, e, g⟩ := loop 11 0 (by omega) (fun v hv => by omega)
  exact ⟨r, by rw [e_137d]; exact e, g⟩
theorem rz_w_inj : ∀ v w : Fin 11, rz_words.getD v.val 0 = rz_words.getD w.val 0 → v = w := by decide +kernel
theorem rz_w_onto : ∀ v : Fin 11, ∃ w : Fin 11, rz_wc w.val = v.val := by decide +kernel
theorem rz_wc_lt : ∀ w : Fin 11, rz_wc w.val < 11 := by decide +kernel
/-- the class has the token k -/
def rz_Kc (k : Nat × Nat) (τ : ra_S) : Prop := match k.1 with
  | 2 => τ.1 2 5 = 2 ∧ rz_nq (τ.1 2 7) k.2
  | 3 => τ.1 2 5 = 3 ∧ τ.1 2 7 = nI k.2 ∧ k.2 < 1073741824
  | 6 => k.2 < 11 ∧ τ.1 2 5 = nI (6 + rz_wc k.2)
  | j => j < 6 ∧ τ.1 2 5 = nI j
theorem rz_c_step {t : Nat → Nat} {N n : Nat} {τ : ra_S} (h : rz_Tc t N n τ) {k : Nat × Nat} {pl nx : Nat} (hk : rz_tkP t N n k pl nx) : ∃ υ : ra_S, ra_C 74 [.ref 2] τ = ra_V υ ∧ rz_Tc t N nx υ ∧ rz_f2 τ υ ∧ rz_Kc k υ ∧ υ.1 2 6 = nI pl := by
  obtain ⟨hp, hk⟩ := hk
  obtain ⟨υ1, e1, T1, f1⟩ := rz_c_skip (N - n) n (by have := h.2.2.2.1; omega) τ h
  rw [← hp] at T1
  have hN := h.2.1
  have hpN := T1.2.2.2.1
  have T2 : rz_Tc t N (pl + 0) (ra_ui (ra_ui υ1 2 6 (υ1.1 2 4)) 2 7 (nI 0)) := rz_Tc_ui (rz_Tc_ui T1 (by omega)) (by omega)
  have f2 : rz_f2 τ (ra_ui (ra_ui υ1 2 6 (υ1.1 2 4)) 2 7 (nI 0)) := (f1.ui (by omega)).ui (by omega)
  obtain ⟨υ2, e2, T3, f3, v3, p3⟩ := rz_c_let pl (N - pl) 0 (by omega) _ T2 (by rw [ra_ui_get, if_pos ⟨rfl, rfl⟩, rz_pk0])
  rw [Nat.add_zero] at e2 T3 v3
  have p3' : υ2.1 2 6 = nI pl := by rw [p3, ra_ui_get, if_neg (by decide), ra_ui_get, if_pos ⟨rfl, rfl⟩]; exact T1.2.2.1
  have rl := rz_run_le (rz_isL t) (N - pl) pl
  rw [e_74, e1, e_74_52, e_75, show (0 : Int32) = nI 0 from rfl, e2, ra_kI]
  have noL : (pl = N ∨ ¬ rz_isL t pl) → rz_run (rz_isL t) (N - pl) pl = pl := fun q => by
    rcases Nat.lt_or_ge pl (rz_run (rz_isL t) (N - pl) pl) with c | c
    · have := rz_run_in (rz_isL t) (N - pl) pl pl (Nat.le_refl _) c
      rcases q with q | q
      · omega
      · exact absurd this q
    · omega
  rcases hk with ⟨k1, rfl, rfl⟩ | ⟨k1, k2, rfl, k4⟩ | ⟨k1, k2, k3, rfl, rfl⟩ | ⟨k1, k2, k3, rfl, k5⟩
  · -- the end
    have nl := noL (Or.inl k1)
    rw [nl] at T3 v3
    rw [nl, rz_inl (by omega) (by omega)]
    obtain ⟨υ3, e3, T4, f4, v4, p4⟩ := rz_c_dig nx (N - nx) 0 (by omega) υ2 T3 (Or.inl ⟨by unfold rz_nvl; omega, by rw [v3, Nat.sub_self, rz_pk0]; rfl⟩)
    have : N - nx = 0 := by omega
    rw [this, Nat.add_zero] at e3 T4
    rw [rz_run, Nat.sub_self] at e3
    rw [rz_run] at T4
    rw [e_76, show (0 : Int32) = nI 0 from rfl, e3, ra_kI, rz_inl (by omega) (by omega), T4.2.2.1, T4.1, rz_inl (by omega) (by omega)]
    exact ⟨_, rfl, rz_Tc_ui T4 (by omega), ((f2.tr f3).tr f4).ui (by omega), ⟨by omega, by rw [ra_ui_get, if_pos ⟨rfl, rfl⟩]⟩, by rw [ra_ui_get, if_neg (by decide), p4]; exact p3'⟩
  · -- letters
    have lt : pl < rz_run (rz_isL t) (N - pl) pl := by
      have hd : N - pl = (N - pl - 1) + 1 := by clear k4; omega
      rw [hd, rz_run, if_pos k2]
      exact (rz_run_le (rz_isL t) (N - pl - 1) (pl + 1)).1
    have allL : ∀ m, m < rz_run (rz_isL t) (N - pl) pl - pl → 97 ≤ t (pl + m) ∧ t (pl + m) ≤ 122 := fun m hm => rz_run_in (rz_isL t) (N - pl) pl (pl + m) (by omega) (by omega)
    obtain ⟨r, er, hr⟩ := rz_c_fw T3.2.2.2.2.2 (υ2.1 2 7)
    generalize rz_run (rz_isL t) (N - pl) pl = nx at *
    rw [rz_il (by omega) (by omega), er, ra_kI, show (6 : Int32) = nI 6 from rfl, rz_ltt (by omega) (by omega)]
    rcases k4 with ⟨c1, rfl⟩ | ⟨c1, w, c2, c3, rfl⟩ | ⟨c1, c2, rfl⟩
    · rw [if_pos c1]
      exact ⟨_, rfl, rz_Tc_ui T3 (by omega), (f2.tr f3).ui (by omega), ⟨by omega, by rw [ra_ui_get, if_pos ⟨rfl, rfl⟩]; rfl⟩, by rw [ra_ui_get, if_neg (by decide)]; exact p3'⟩
    · have ew := (rz_eqw_iff c2 c1 allL).mp c3
      rw [if_neg (by omega)]
      rcases hr with ⟨v, q1, rfl, q2⟩ | ⟨rfl, q2⟩
      · have vw : v = rz_wc w := by
          have := rz_w_inj ⟨v, q1⟩ ⟨rz_wc w, rz_wc_lt ⟨w, c2⟩⟩ (by rw [q2, v3]; exact ew.symm)
          exact congrArg Fin.val this
        subst vw
        rw [if_neg (nI_nm1 (by omega)), nI_add]
        exact ⟨_, rfl, rz_Tc_ui T3 (by omega), (f2.tr f3).ui (by omega), ⟨c2, by rw [ra_ui_get, if_pos ⟨rfl, rfl⟩]⟩, by rw [ra_ui_get, if_neg (by decide)]; exact p3'⟩
      · exact absurd (by rw [ew, v3]) (q2 (rz_wc w) (rz_wc_lt ⟨w, c2⟩))
    · rw [if_neg (by omega)]
      rcases hr with ⟨v, q1, rfl, q2⟩ | ⟨rfl, q2⟩
      · obtain ⟨w, hw⟩ := rz_w_onto ⟨v, q1⟩
        exact absurd ((rz_eqw_iff w.isLt c1 allL).mpr (by rw [hw, q2, v3])) (c2 w.val w.isLt)
      · rw [if_pos rfl]
        exact ⟨_, rfl, rz_Tc_ui T3 (by omega), (f2.tr f3).ui (by omega), ⟨by rw [ra_ui_get, if_pos ⟨rfl, rfl⟩], by rw [ra_ui_get, if_neg (by decide)]; exact v3, rz_pk_lt (fun m hm => (allL m hm).2)⟩, by rw [ra_ui_get, if_neg (by decide)]; exact p3'⟩
  · -- digits
    have nl := noL (Or.inr k2)
    rw [nl] at T3 v3
    rw [nl, rz_inl (by omega) (by omega)]
    obtain ⟨υ3, e3, T4, f4, v4, p4⟩ := rz_c_dig pl (N - pl) 0 (by omega) υ2 T3 (Or.inl ⟨by unfold rz_nvl; omega, by rw [v3, Nat.sub_self, rz_pk0]; rfl⟩)
    rw [Nat.add_zero] at e3 T4 v4
    have lt : pl < rz_run (rz_isN t) (N - pl) pl := by
      obtain ⟨d, hd⟩ : ∃ d, N - pl = d + 1 := ⟨N - pl - 1, by omega⟩
      rw [hd, rz_run, if_pos k3]
      have := rz_run_le (rz_isN t) d (pl + 1)
      omega
    have rn := rz_run_le (rz_isN t) (N - pl) pl
    rw [e_76, show (0 : Int32) = nI 0 from rfl, e3, ra_kI, rz_il (by omega) (by omega)]
    exact ⟨_, rfl, rz_Tc_ui T4 (by omega), ((f2.tr f3).tr f4).ui (by omega), ⟨by rw [ra_ui_get, if_pos ⟨rfl, rfl⟩], by rw [ra_ui_get, if_neg (by decide)]; exact v4⟩, by rw [ra_ui_get, if_neg (by decide), p4]; exact p3'⟩
  · -- a sign
    have nl := noL (Or.inr k2)
    rw [nl] at T3 v3
    rw [nl, rz_inl (by omega) (by omega)]
    obtain ⟨υ3, e3, T4, f4, v4, p4⟩ := rz_c_dig pl (N - pl) 0 (by omega) υ2 T3 (Or.inl ⟨by unfold rz_nvl; omega, by rw [v3, Nat.sub_self, rz_pk0]; rfl⟩)
    rw [Nat.add_zero] at e3 T4 v4
    have nn : rz_run (rz_isN t) (N - pl) pl = pl := by
      obtain ⟨d, hd⟩ : ∃ d, N - pl = d + 1 := ⟨N - pl - 1, by omega⟩
      rw [hd, rz_run, if_neg k3]
    rw [nn] at e3 T4
    obtain ⟨b1, b2⟩ := T4.2.2.2.2.1 pl k1
    rw [e_76, show (0 : Int32) = nI 0 from rfl, e3, ra_kI, rz_inl (by omega) (by omega), T4.2.2.1, T4.1, rz_il (by omega) k1, rz_ig (by omega) (by omega), nI_clamp (by omega), b1, rz_ig (by omega) (by omega), show (45 : Int32) = nI 45 from rfl, show (59 : Int32) = nI 59 from rfl, rz_lit (by omega) (by omega), rz_lit (by omega) (by omega)]
    have fin : ∀ (j : Nat) (o1 o2 : Option Value), j < 6 → j ≠ 2 → j ≠ 3 → ∃ υ : ra_S, ra_D (ra_lay, none, 99999, ra_m74) 182 [some (.ref 2), o1, o2] [.int (nI j), .ref 2] υ3 = ra_V υ ∧ rz_Tc t N (pl + 1) υ ∧ rz_f2 τ υ ∧ υ.1 2 5 = nI j ∧ υ.1 2 6 = nI pl := by
      intro j o1 o2 _ _ _
      rw [e_74_182, T4.2.2.1, nI_1]
      exact ⟨_, rfl, rz_Tc_n (rz_Tc_ui T4 (by omega)) (by omega), ((((f2.tr f3).tr f4).ui (by omega)).ui (by omega)), by rw [ra_ui_get, if_neg (by decide), ra_ui_get, if_pos ⟨rfl, rfl⟩], by rw [ra_ui_get, if_neg (by decide), ra_ui_get, if_neg (by decide), p4]; exact p3'⟩
    by_cases z : t pl = 45
    · rw [if_pos z] at k5 ⊢
      subst k5
      obtain ⟨υ, a1, a2, a3, a4, a5⟩ := fin 4 _ _ (by omega) (by omega) (by omega)
      exact ⟨υ, a1, a2, a3, ⟨by omega, a4⟩, a5⟩
    · rw [if_neg z] at k5 ⊢
      by_cases y : t pl = 59
      · rw [if_pos y] at k5 ⊢
        subst k5
        obtain ⟨υ, a1, a2, a3, a4, a5⟩ := fin 5 _ _ (by omega) (by omega) (by omega)
        exact ⟨υ, a1, a2, a3, ⟨by omega, a4⟩, a5⟩
      · rw [if_neg y] at k5 ⊢
        subst k5
        obtain ⟨υ, a1, a2, a3, a4, a5⟩ := fin 1 _ _ (by omega) (by omega) (by omega)
        exact ⟨υ, a1, a2, a3, ⟨by omega, a4⟩, a5⟩
