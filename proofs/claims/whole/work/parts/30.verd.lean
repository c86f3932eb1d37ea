-- ===== how far apart, how far behind, the verdict =====
theorem rz_oI {x : Int} (h1 : -2147483648 ≤ x) (h2 : x < 2147483648) : (Int32.ofInt x).toInt = x := Int32.toInt_ofInt_of_le h1 h2
theorem rz_oLw {x : Int} (h1 : -2147483648 ≤ x) (h2 : x < 2147483648) : (Int32.ofInt x).toInt64 = rz_L x := by rw [rz_32L, rz_oI h1 h2]
theorem rz_oLt {a b : Int} (h1 : -2147483648 ≤ a) (h2 : a < 2147483648) (h3 : -2147483648 ≤ b) (h4 : b < 2147483648) : Int32.ofInt a < Int32.ofInt b ↔ a < b := by rw [Int32.lt_iff_toInt_lt, rz_oI h1 h2, rz_oI h3 h4]
theorem rz_tt {v : Int} (v1 : -9223372036854775808 ≤ v) (v2 : v < 9223372036854775808) : (rz_L v).toInt32 = Int32.ofInt v := by rw [← Int32.toInt_inj, Int64.toInt_toInt32, rz_L_i v1 v2, Int32.toInt_ofInt]
def rz_mn (g : Nat → Int) : Nat → Int
  | 0 => g 0
  | n + 1 => if g (n + 1) < rz_mn g n then g (n + 1) else rz_mn g n
def rz_mx (g : Nat → Int) : Nat → Int
  | 0 => g 0
  | n + 1 => if rz_mx g n < g (n + 1) then g (n + 1) else rz_mx g n
def rz_wd (g : Nat → Int) (np : Nat) : Int := if np = 0 then 0 else rz_mx g (np - 1) - rz_mn g (np - 1)
theorem rz_mnx_in {g : Nat → Int} {a b : Int} : ∀ n, (∀ q, q ≤ n → a ≤ g q ∧ g q ≤ b) → (a ≤ rz_mn g n ∧ rz_mn g n ≤ b) ∧ (a ≤ rz_mx g n ∧ rz_mx g n ≤ b) ∧ rz_mn g n ≤ rz_mx g n
  | 0, h => ⟨h 0 (Nat.le_refl _), h 0 (Nat.le_refl _), Int.le_refl _⟩
  | n + 1, h => by
    have i := rz_mnx_in n (fun q hq => h q (by omega))
    have j := h (n + 1) (Nat.le_refl _)
    rw [rz_mn, rz_mx]
    (repeat' split) <;> omega
theorem rz_wd_in {g : Nat → Int} {np : Nat} (h : ∀ q, q < np → -1050000000 ≤ g q ∧ g q ≤ 1050000000) : 0 ≤ rz_wd g np ∧ rz_wd g np ≤ 2100000000 := by
  unfold rz_wd
  by_cases z : np = 0
  · rw [if_pos z]; omega
  · rw [if_neg z]
    have := rz_mnx_in (np - 1) (fun q hq => h q (by omega))
    omega
def rz_smI (g : Nat → Int) : Nat → Int
  | 0 => 0
  | n + 1 => rz_smI g n + g n
def rz_lg (g : Nat → Int) (np : Nat) : Int := if np = 0 then 0 else rz_smI g np / (np : Int)
theorem rz_smI_in {g : Nat → Int} : ∀ n, (∀ q, q < n → -1020000000 ≤ g q ∧ g q ≤ 1020000000) → -(1020000000 * (n : Int)) ≤ rz_smI g n ∧ rz_smI g n ≤ 1020000000 * (n : Int)
  | 0, _ => by unfold rz_smI; omega
  | n + 1, h => by
    have i := rz_smI_in n (fun q hq => h q (by omega))
    have j := h n (by omega)
    rw [rz_smI]; omega
theorem rz_lg_in {g : Nat → Int} {np : Nat} (hn : np ≤ 8) (h : ∀ q, q < np → -1020000000 ≤ g q ∧ g q ≤ 1020000000) : -1020000000 ≤ rz_lg g np ∧ rz_lg g np ≤ 1020000000 := by
  have i := rz_smI_in np h
  unfold rz_lg
  rcases (show np = 0 ∨ np = 1 ∨ np = 2 ∨ np = 3 ∨ np = 4 ∨ np = 5 ∨ np = 6 ∨ np = 7 ∨ np = 8 by omega) with rfl | rfl | rfl | rfl | rfl | rfl | rfl | rfl | rfl
  · rw [if_pos rfl]; omega
  all_goals rw [if_neg (by omega)]; omega
def rz_vd (w1 w0 l1 l0 e : Int) : Int := if e < w1 - w0 then 3 else if e < l1 - l0 then 1 else if l1 - l0 < -e then 2 else 0
def rz_ver (e : Nat → Nat → Int) (bg : Nat → Int) (np nb : Nat) (a : Int) : Int := rz_vd (rz_wd (e (nb - 1)) np) (rz_wd (e (nb - 1 - 8)) np) (rz_lg (fun p => e (nb - 1) p - bg (nb - 1)) np) (rz_lg (fun p => e (nb - 1 - 8) p - bg (nb - 1 - 8)) np) a
/-- the class's table of entries -/
def rz_TC (e : Nat → Nat → Int) (bg : Nat → Int) (np nb : Nat) (σ : ra_S) : Prop := σ.1 16 0 = nI np ∧ np ≤ 8 ∧ σ.1 10 5 = nI nb ∧ nb ≤ 40 ∧ (∀ p, p < 8 → σ.1 75 p = 0) ∧ (∀ b, b < nb → 0 ≤ bg b ∧ bg b ≤ 10000000 ∧ σ.1 25 b = Int32.ofInt (bg b)) ∧ ∀ b p, b < nb → p < np → σ.1 73 (8 * b + p) = Int32.ofInt (e b p) ∧ -1000000000 ≤ e b p ∧ e b p ≤ 1000000000
def rz_TM (e : Nat → Nat → Int) (bg : Nat → Int) (np nb : Nat) (σ : ra_S) : Prop := σ.1 86 14 = nI np ∧ np ≤ 8 ∧ σ.1 86 12 = nI nb ∧ nb ≤ 40 ∧ (∃ len : Nat → Nat, (∀ k, k < nb → σ.1 89 k = nI (len k)) ∧ (∀ n, n ≤ nb → bg n = (rz_sum len n : Int)) ∧ rz_sum len nb ≤ 10000000) ∧ ∀ b p, b < nb → p < np → σ.1 102 (8 * b + p) = Int32.ofInt (e b p) ∧ -1000000000 ≤ e b p ∧ e b p ≤ 1000000000
theorem rz_mid47 (σ : ra_S) (x y : Int32) : ra_C 251 [.int x, .int y] σ = ra_I (if y < x then y else x) σ := by
  rw [e_251]; split <;> rfl
theorem rz_max47 (σ : ra_S) (x y : Int32) : ra_C 249 [.int x, .int y] σ = ra_I (if x < y then y else x) σ := by
  rw [e_249]; split <;> rfl
theorem rz_w49 (σ : ra_S) {np b k : Nat} (hn : np ≤ 8) (hb : b < 40) (hk : k < np) {s v6 v7 : Int32} (hs : σ.1 73 (8 * b + k) + σ.1 75 k = s) (o1 o2 o9 : Option Value) : ra_D (ra_lay, none, 99999, ra_m49) 53 [some (.ref 72), o1, o2, some (.ref 75), some (.int (nI (b * 8))), some (.int (nI np)), some (.int v6), some (.int v7), some (.int (nI k)), o9] [] σ = ra_D (ra_lay, none, 99999, ra_m49) 53 [some (.ref 72), o1, o2, some (.ref 75), some (.int (nI (b * 8))), some (.int (nI np)), some (.int (if s < v6 then s else v6)), some (.int (if v7 < s then s else v7)), some (.int (nI (k + 1))), some (.int s)] [] σ := by
  refine (e_49_53 o1 o2 (nI (b * 8)) (nI np) v6 v7 (nI k) o9 σ).trans ?_
  rw [rz_il (by omega) (by omega), show (8 : Int32) = nI 8 from rfl, rz_il (by omega) (by omega), nI_add, rz_ig (by omega) (by omega), rz_ig (by omega) (by omega), nI_clamp (by omega), nI_clamp (by omega), show b * 8 + k = 8 * b + k by omega, hs]
  by_cases a : s < v6
  · rw [if_pos a, if_pos a, e_49_95, nI_1]
    by_cases c : v7 < s
    · rw [if_pos c, if_pos c]
    · rw [if_neg c, if_neg c]
  · rw [if_neg a, if_neg a, e_49_95, nI_1]
    by_cases c : v7 < s
    · rw [if_pos c, if_pos c]
    · rw [if_neg c, if_neg c]
theorem rz_cT (σ : ra_S) {e : Nat → Nat → Int} {bg : Nat → Int} {np nb : Nat} (h : rz_TC e bg np nb σ) {g : Nat → Int} {b : Nat} (hb : b < nb) (hg : ∀ p, p < np → σ.1 73 (8 * b + p) + σ.1 75 p = Int32.ofInt (g p) ∧ -1050000000 ≤ g p ∧ g p ≤ 1050000000) : ra_C 49 [.ref 72, .ref 10, .int (nI b), .ref 75] σ = ra_I (Int32.ofInt (rz_wd g np)) σ := by
  obtain ⟨h1, h2, h3, h4, -⟩ := h
  have loop : ∀ d k, k + d = np → 1 ≤ k → ∀ o7 : Option Value, ra_D (ra_lay, none, 99999, ra_m49) 53 [some (.ref 72), some (.ref 10), some (.int (nI b)), some (.ref 75), some (.int (nI (b * 8))), some (.int (nI np)), some (.int (Int32.ofInt (rz_mn g (k - 1)))), some (.int (Int32.ofInt (rz_mx g (k - 1)))), some (.int (nI k)), o7] [] σ = ra_I (Int32.ofInt (rz_wd g np)) σ := by
    intro d
    induction d with
    | zero =>
      intro k hk k1 o7
      have : k = np := by omega
      subst this
      rw [e_49_53, rz_inl (by omega) (by omega), ← Int32.ofInt_sub]
      unfold rz_wd
      rw [if_neg (by omega)]
    | succ d ih =>
      intro k hk k1 o7
      obtain ⟨g1, g2⟩ := hg k (by omega)
      have ii := rz_mnx_in (k - 1) (fun q hq => (hg q (by omega)).2)
      have i := ih (k + 1) (by omega) (by omega)
      rw [show k + 1 - 1 = k - 1 + 1 by omega, rz_mn, rz_mx, show k - 1 + 1 = k by omega] at i
      rw [rz_w49 σ h2 (by omega) (by omega) g1]
      have q1 : (if Int32.ofInt (g k) < Int32.ofInt (rz_mn g (k - 1)) then Int32.ofInt (g k) else Int32.ofInt (rz_mn g (k - 1))) = Int32.ofInt (if g k < rz_mn g (k - 1) then g k else rz_mn g (k - 1)) := by
        by_cases z : g k < rz_mn g (k - 1)
        · rw [if_pos z, if_pos ((rz_oLt (by omega) (by omega) (by omega) (by omega)).mpr z)]
        · rw [if_neg z, if_neg (fun y => z ((rz_oLt (by omega) (by omega) (by omega) (by omega)).mp y))]
      have q2 : (if Int32.ofInt (rz_mx g (k - 1)) < Int32.ofInt (g k) then Int32.ofInt (g k) else Int32.ofInt (rz_mx g (k - 1))) = Int32.ofInt (if rz_mx g (k - 1) < g k then g k else rz_mx g (k - 1)) := by
        by_cases z : rz_mx g (k - 1) < g k
        · rw [if_pos z, if_pos ((rz_oLt (by omega) (by omega) (by omega) (by omega)).mpr z)]
        · rw [if_neg z, if_neg (fun y => z ((rz_oLt (by omega) (by omega) (by omega) (by omega)).mp y))]
      rw [q1, q2]
      exact i _
  rw [e_49, h1]
  by_cases z : np = 0
  · subst z
    rw [if_pos (show nI 0 = (0 : Int32) from rfl)]; rfl
  · obtain ⟨g1, g2⟩ := hg 0 (by omega)
    rw [if_neg (nI_ne0 (by omega) (by omega)), if_neg (nI_pos (by omega)), show (40 : Int32) = nI 40 from rfl, rz_il (by omega) (by omega), show (8 : Int32) = nI 8 from rfl, rz_mid47, ra_kI, rz_inl (by omega) (by omega), pk_mul, show (0 : Int32) = nI 0 from rfl, rz_w49 σ (k := 0) h2 (by omega) (by omega) g1, if_pos (show Int32.ofInt (g 0) < (2147483647 : Int32) by rw [Int32.lt_iff_toInt_lt, rz_oI (by omega) (by omega)]; show g 0 < (2147483647 : Int); omega), if_pos (show (-2147483648 : Int32) < Int32.ofInt (g 0) by rw [Int32.lt_iff_toInt_lt, rz_oI (by omega) (by omega)]; show (-2147483648 : Int) < g 0; omega)]
    exact loop (np - 1) 1 (by omega) (by omega) _
theorem rz_c_spread {σ : ra_S} {e : Nat → Nat → Int} {bg : Nat → Int} {np nb : Nat} (h : rz_TC e bg np nb σ) {b : Nat} (hb : b < nb) : ra_C 48 [.ref 72, .ref 10, .int (nI b)] σ = ra_I (Int32.ofInt (rz_wd (e b) np)) σ := by
  rw [e_48, rz_cT σ h hb (g := e b) (fun p hp => ?_), ra_kI]
  obtain ⟨k1, k2⟩ := h.2.2.2.2.2.2 b p hb hp
  rw [k1, h.2.2.2.2.1 p (by have := h.2.1; omega), Int32.add_zero]
  exact ⟨rfl, by omega⟩
theorem rz_c_lag {σ : ra_S} {e : Nat → Nat → Int} {bg : Nat → Int} {np nb : Nat} (h : rz_TC e bg np nb σ) {b : Nat} (hb : b < nb) : ra_C 50 [.ref 72, .ref 10, .int (nI b)] σ = ra_I (Int32.ofInt (rz_lg (fun p => e b p - bg b) np)) σ := by
  obtain ⟨h1, h2, h3, h4, h5, h6, h7⟩ := id h
  obtain ⟨b1, b2, b3⟩ := h6 b hb
  rw [e_50, h1]
  unfold rz_lg
  by_cases z : np = 0
  · subst z; rw [if_pos (show nI 0 = (0 : Int32) from rfl), if_pos rfl]; rfl
  · have si := rz_smI_in (g := fun p => e b p - bg b) np (fun q hq => by have := (h7 b q hb hq).2; omega)
    rw [if_neg (nI_ne0 (by omega) (by omega)), if_neg z, if_neg (nI_pos (by omega)), show (40 : Int32) = nI 40 from rfl, rz_il (by omega) (by omega)]
    have loop : ∀ d k, k + d = np → ra_D (ra_lay, none, 99999, ra_m50) 30 [some (.ref 72), some (.ref 10), some (.int (nI b)), some (.int (nI np)), some (.long (rz_L (rz_smI (fun p => e b p - bg b) k))), none, some (.int (nI k))] [] σ = ra_I (Int32.ofInt (rz_smI (fun p => e b p - bg b) np / (np : Int))) σ := by
      intro d
      induction d with
      | zero =>
        intro k hk
        have : k = np := by omega
        subst this
        have nb := Int.natAbs_ediv_le_natAbs (rz_smI (fun p => e b p - bg b) k) (k : Int)
        rw [e_50_30, rz_inl (by omega) (by omega), nI_l (by omega), rz_lNL, rz_c_div σ (by omega) (by omega) (by omega) (by omega), ra_kJ, rz_tt (by omega) (by omega)]
      | succ d ih =>
        intro k hk
        obtain ⟨k1, k2⟩ := h7 b k hb (by omega)
        rw [e_50_30, rz_il (by omega) (by omega), rz_c_at (by omega) (by omega), ra_kI, rz_ig (by omega) (by omega), nI_clamp (by omega), k1, b3, ← Int32.ofInt_sub, rz_oLw (by omega) (by omega), rz_L_add, nI_1]
        exact ih (k + 1) (by omega)
    exact loop np 0 (by omega)
theorem rz_vd_c {w1 w0 l1 l0 : Int} (a : Int32) (ha : 0 ≤ a.toInt ∧ a.toInt ≤ 9999) (h1 : 0 ≤ w1 ∧ w1 ≤ 2100000000) (h0 : 0 ≤ w0 ∧ w0 ≤ 2100000000) (g1 : -1020000000 ≤ l1 ∧ l1 ≤ 1020000000) (g0 : -1020000000 ≤ l0 ∧ l0 ≤ 1020000000) : (if a < Int32.ofInt w1 - Int32.ofInt w0 then (3 : Int32) else if a < Int32.ofInt l1 - Int32.ofInt l0 then 1 else if Int32.ofInt l1 - Int32.ofInt l0 < -a then 2 else 0) = Int32.ofInt (rz_vd w1 w0 l1 l0 a.toInt) := by
  have na : -a = Int32.ofInt (-a.toInt) := by rw [Int32.ofInt_neg, rz_ofI]
  have pa : a = Int32.ofInt a.toInt := (rz_ofI a).symm
  rw [← Int32.ofInt_sub, ← Int32.ofInt_sub, na]
  unfold rz_vd
  have c1 : a < Int32.ofInt (w1 - w0) ↔ a.toInt < w1 - w0 := by rw [Int32.lt_iff_toInt_lt, rz_oI (by omega) (by omega)]
  have c2 : a < Int32.ofInt (l1 - l0) ↔ a.toInt < l1 - l0 := by rw [Int32.lt_iff_toInt_lt, rz_oI (by omega) (by omega)]
  have c3 : Int32.ofInt (l1 - l0) < Int32.ofInt (-a.toInt) ↔ l1 - l0 < -a.toInt := rz_oLt (by omega) (by omega) (by omega) (by omega)
  simp only [c1, c2, c3]
  (repeat' split) <;> rfl
theorem rz_c_ver {σ : ra_S} {e : Nat → Nat → Int} {bg : Nat → Int} {np nb : Nat} (h : rz_TC e bg np nb σ) (hb : 0 < nb) (a : Int32) (ha : 0 ≤ a.toInt ∧ a.toInt ≤ 9999) : ra_C 51 [.ref 72, .ref 10, .int a] σ = ra_I (Int32.ofInt (rz_ver e bg np nb a.toInt)) σ := by
  obtain ⟨h1, h2, h3, h4, h5, h6, h7⟩ := id h
  have s1 : nI nb - (1 : Int32) = nI (nb - 1) := pk_sub (a := nb) (b := 1) hb
  have s2 : (if nI (nb - 1) - (8 : Int32) < (0 : Int32) then (0 : Int32) else nI (nb - 1) - (8 : Int32)) = nI (nb - 1 - 8) := by
    by_cases z : 8 ≤ nb - 1
    · rw [show nI (nb - 1) - (8 : Int32) = nI (nb - 1 - 8) from pk_sub (a := nb - 1) (b := 8) z, if_neg (nI_pos (by omega))]
    · rw [if_pos (show nI (nb - 1) - (8 : Int32) < 0 from pk_sneg (a := nb - 1) (b := 8) (by omega) (by omega)), show nb - 1 - 8 = 0 by omega]; rfl
  rw [e_51, h3, s1, rz_max47, ra_kI, s2, rz_c_spread h (by omega), ra_kI, rz_c_spread h (by omega), ra_kI, rz_c_lag h (by omega), ra_kI, rz_c_lag h (by omega), ra_kI]
  have := rz_vd_c (w1 := rz_wd (e (nb - 1)) np) (w0 := rz_wd (e (nb - 1 - 8)) np) (l1 := rz_lg (fun p => e (nb - 1) p - bg (nb - 1)) np) (l0 := rz_lg (fun p => e (nb - 1 - 8) p - bg (nb - 1 - 8)) np) a ha (rz_wd_in (fun q hq => by have := (h7 (nb - 1) q (by omega) hq).2; omega)) (rz_wd_in (fun q hq => by have := (h7 (nb - 1 - 8) q (by omega) hq).2; omega)) (rz_lg_in h2 (fun q hq => by have := (h7 (nb - 1) q (by omega) hq).2; have := h6 (nb - 1) (by omega); omega)) (rz_lg_in h2 (fun q hq => by have := (h7 (nb - 1 - 8) q (by omega) hq).2; have := h6 (nb - 1 - 8) (by omega); omega))
  unfold rz_ver
  rw [← this]
  (repeat' split) <;> rfl
-- the reference
theorem rz_m_spread {σ : ra_S} {e : Nat → Nat → Int} {bg : Nat → Int} {np nb : Nat} (h : rz_TM e bg np nb σ) {b : Nat} (hb : b < nb) : ra_C 192 [.ref 86, .int (nI b)] σ = ra_I (Int32.ofInt (rz_wd (e b) np)) σ := by
  obtain ⟨h1, h2, h3, h4, h5, h7⟩ := id h
  have m8 : (8 : Int32) * nI b = nI (8 * b) := pk_mul 8 b
  rw [e_192, h1]
  unfold rz_wd
  by_cases z : np = 0
  · subst z; rw [if_pos (show nI 0 = (0 : Int32) from rfl), if_pos rfl]; rfl
  · rw [if_neg (nI_ne0 (by omega) (by omega)), if_neg z, m8, rz_ig (by omega) (by omega), nI_clamp (by omega), show 8 * b = 8 * b + 0 by omega, (h7 b 0 hb (by omega)).1]
    have loop : ∀ d k, k + d = np → 1 ≤ k → ∀ o5 : Option Value, ra_D (ra_lay, none, 99999, ra_m192) 24 [some (.ref 86), some (.int (nI b)), some (.int (Int32.ofInt (rz_mn (e b) (k - 1)))), some (.int (Int32.ofInt (rz_mx (e b) (k - 1)))), some (.int (nI k)), o5] [] σ = ra_I (Int32.ofInt (rz_mx (e b) (np - 1) - rz_mn (e b) (np - 1))) σ := by
      intro d
      induction d with
      | zero =>
        intro k hk k1 o5
        have : k = np := by omega
        subst this
        rw [e_192_24, h1, rz_inl (by omega) (by omega), ← Int32.ofInt_sub]
      | succ d ih =>
        intro k hk k1 o5
        obtain ⟨g1, g2⟩ := h7 b k hb (by omega)
        have ii := rz_mnx_in (k - 1) (fun q hq => (h7 b q hb (by omega)).2)
        have i := ih (k + 1) (by omega) (by omega)
        rw [show k + 1 - 1 = k - 1 + 1 by omega, rz_mn, rz_mx, show k - 1 + 1 = k by omega] at i
        rw [e_192_24, h1, rz_il (by omega) (by omega), m8, nI_add, rz_ig (by omega) (by omega), nI_clamp (by omega), g1]
        have fin : ∀ o2 : Option Value, ra_D (ra_lay, none, 99999, ra_m192) 59 [some (.ref 86), some (.int (nI b)), o2, some (.int (Int32.ofInt (rz_mx (e b) (k - 1)))), some (.int (nI k)), some (.int (Int32.ofInt (e b k)))] [.int (Int32.ofInt (if e b k < rz_mn (e b) (k - 1) then e b k else rz_mn (e b) (k - 1)))] σ = ra_I (Int32.ofInt (rz_mx (e b) (np - 1) - rz_mn (e b) (np - 1))) σ := by
          intro o2
          rw [e_192_59, nI_1]
          by_cases y : rz_mx (e b) (k - 1) < e b k
          · rw [if_pos ((rz_oLt (by omega) (by omega) (by omega) (by omega)).mpr y)]
            rw [if_pos y] at i
            exact i _
          · rw [if_neg (fun w => y ((rz_oLt (by omega) (by omega) (by omega) (by omega)).mp w))]
            rw [if_neg y] at i
            exact i _
        by_cases y : e b k < rz_mn (e b) (k - 1)
        · rw [if_pos ((rz_oLt (by omega) (by omega) (by omega) (by omega)).mpr y)]
          have := fin (some (.int (Int32.ofInt (rz_mn (e b) (k - 1)))))
          rw [if_pos y] at this
          exact this
        · rw [if_neg (fun w => y ((rz_oLt (by omega) (by omega) (by omega) (by omega)).mp w))]
          have := fin (some (.int (Int32.ofInt (rz_mn (e b) (k - 1)))))
          rw [if_neg y] at this
          exact this
    exact loop (np - 1) 1 (by omega) (by omega) _
theorem rz_m_lag {σ : ra_S} {e : Nat → Nat → Int} {bg : Nat → Int} {np nb : Nat} (h : rz_TM e bg np nb σ) {b : Nat} (hb : b < nb) : ra_C 193 [.ref 86, .int (nI b)] σ = ra_I (Int32.ofInt (rz_lg (fun p => e b p - bg b) np)) σ := by
  obtain ⟨h1, h2, h3, h4, ⟨len, l1, l2, l3⟩, h7⟩ := id h
  have bb : 0 ≤ bg b ∧ bg b ≤ 10000000 := by
    rw [l2 b (by omega)]
    have := rz_sum_mono len (show b ≤ nb by omega)
    omega
  have be := rz_beginOf (n := b) l1 (by omega) h4
  have m8 : (8 : Int32) * nI b = nI (8 * b) := pk_mul 8 b
  rw [e_193, h1]
  unfold rz_lg
  by_cases z : np = 0
  · subst z; rw [if_pos (show nI 0 = (0 : Int32) from rfl), if_pos rfl]; rfl
  · have si := rz_smI_in (g := fun p => e b p - bg b) np (fun q hq => by have := (h7 b q hb hq).2; omega)
    rw [if_neg (nI_ne0 (by omega) (by omega)), if_neg z]
    have loop : ∀ d k, k + d = np → ra_D (ra_lay, none, 99999, ra_m193) 14 [some (.ref 86), some (.int (nI b)), some (.long (rz_L (rz_smI (fun p => e b p - bg b) k))), none, some (.int (nI k))] [] σ = ra_I (Int32.ofInt (rz_smI (fun p => e b p - bg b) np / (np : Int))) σ := by
      intro d
      induction d with
      | zero =>
        intro k hk
        have : k = np := by omega
        subst this
        have nb := Int.natAbs_ediv_le_natAbs (rz_smI (fun p => e b p - bg b) k) (k : Int)
        rw [e_193_14, h1, rz_inl (by omega) (by omega), nI_l (by omega), rz_lNL, rz_m_div σ (by omega) (by omega) (by omega) (by omega), ra_kJ, rz_tt (by omega) (by omega)]
      | succ d ih =>
        intro k hk
        obtain ⟨k1, k2⟩ := h7 b k hb (by omega)
        rw [e_193_14, h1, rz_il (by omega) (by omega), m8, nI_add, rz_ig (by omega) (by omega), nI_clamp (by omega), be, ra_kI, k1, rz_nIo (rz_sum len b), ← l2 b (by omega), ← Int32.ofInt_sub, rz_oLw (by omega) (by omega), rz_L_add, nI_1]
        exact ih (k + 1) (by omega)
    exact loop np 0 (by omega)
theorem rz_m_ver {σ : ra_S} {e : Nat → Nat → Int} {bg : Nat → Int} {np nb : Nat} (h : rz_TM e bg np nb σ) (hb : 0 < nb) (a : Int32) (ha : 0 ≤ a.toInt ∧ a.toInt ≤ 9999) : ra_C 196 [.ref 86, .int a] σ = ra_I (Int32.ofInt (rz_ver e bg np nb a.toInt)) σ := by
  obtain ⟨h1, h2, h3, h4, ⟨len, l1, l2, l3⟩, h7⟩ := id h
  have s1 : nI nb - (1 : Int32) = nI (nb - 1) := pk_sub (a := nb) (b := 1) hb
  have bb : ∀ b, b < nb → 0 ≤ bg b ∧ bg b ≤ 10000000 := fun b hb => by
    rw [l2 b (by omega)]
    have := rz_sum_mono len (show b ≤ nb by omega)
    omega
  have i1 := rz_wd_in (g := e (nb - 1)) (np := np) (fun q hq => by have := (h7 (nb - 1) q (by omega) hq).2; omega)
  have i2 := rz_wd_in (g := e (nb - 1 - 8)) (np := np) (fun q hq => by have := (h7 (nb - 1 - 8) q (by omega) hq).2; omega)
  have i3 := rz_lg_in (g := fun p => e (nb - 1) p - bg (nb - 1)) h2 (fun q hq => by have := (h7 (nb - 1) q (by omega) hq).2; have := bb (nb - 1) (by omega); omega)
  have i4 := rz_lg_in (g := fun p => e (nb - 1 - 8) p - bg (nb - 1 - 8)) h2 (fun q hq => by have := (h7 (nb - 1 - 8) q (by omega) hq).2; have := bb (nb - 1 - 8) (by omega); omega)
  have fin : ra_D (ra_lay, none, 99999, ra_m196) 21 [some (.ref 86), some (.int a), some (.int (nI (nb - 1))), none, none, none, none, none] [.int (nI (nb - 1 - 8))] σ = ra_I (Int32.ofInt (rz_ver e bg np nb a.toInt)) σ := by
    rw [e_196_21, rz_m_spread h (by omega), ra_kI, rz_m_spread h (by omega), ra_kI, rz_m_lag h (by omega), ra_kI, rz_m_lag h (by omega), ra_kI, rz_oLw (by omega) (by omega), rz_oLw (by omega) (by omega), rz_oLw (by omega) (by omega), rz_oLw (by omega) (by omega), rz_L_sub, rz_L_sub, rz_L_neg, rz_32L]
    unfold rz_ver rz_vd
    have c : ∀ x : Int, -5000000000 ≤ x → x ≤ 5000000000 → ((0 : Int32) < lg_cmp (rz_L x) (rz_L a.toInt) ↔ a.toInt < x) := fun x x1 x2 => by
      rw [rz_lc, rz_L_lt (by omega) (by omega) (by omega) (by omega)]
    have c1 := c (rz_wd (e (nb - 1)) np - rz_wd (e (nb - 1 - 8)) np) (by omega) (by omega)
    have c2 := c (rz_lg (fun p => e (nb - 1) p - bg (nb - 1)) np - rz_lg (fun p => e (nb - 1 - 8) p - bg (nb - 1 - 8)) np) (by omega) (by omega)
    have c3 := c (-(rz_lg (fun p => e (nb - 1) p - bg (nb - 1)) np - rz_lg (fun p => e (nb - 1 - 8) p - bg (nb - 1 - 8)) np)) (by omega) (by omega)
    by_cases z1 : a.toInt < rz_wd (e (nb - 1)) np - rz_wd (e (nb - 1 - 8)) np
    · rw [if_pos (c1.mpr z1), if_pos z1]; rfl
    · rw [if_neg (fun y => z1 (c1.mp y)), if_neg z1]
      by_cases z2 : a.toInt < rz_lg (fun p => e (nb - 1) p - bg (nb - 1)) np - rz_lg (fun p => e (nb - 1 - 8) p - bg (nb - 1 - 8)) np
      · rw [if_pos (c2.mpr z2), if_pos z2]; rfl
      · rw [if_neg (fun y => z2 (c2.mp y)), if_neg z2]
        by_cases z3 : rz_lg (fun p => e (nb - 1) p - bg (nb - 1)) np - rz_lg (fun p => e (nb - 1 - 8) p - bg (nb - 1 - 8)) np < -a.toInt
        · rw [if_pos (c3.mpr (by omega)), if_pos z3]; rfl
        · rw [if_neg (fun y => z3 (by have := c3.mp y; omega)), if_neg z3]; rfl
  rw [e_196, h3, s1]
  by_cases z : 8 < nb - 1
  · rw [if_pos (show (8 : Int32) < nI (nb - 1) from nI_lt (a := 8) (b := nb - 1) z (by omega)), show nI (nb - 1) - (8 : Int32) = nI (nb - 1 - 8) from pk_sub (a := nb - 1) (b := 8) (by omega)]
    exact fin
  · rw [if_neg (show ¬ (8 : Int32) < nI (nb - 1) from nI_nlt (a := 8) (b := nb - 1) (by omega) (by omega))]
    rw [show nb - 1 - 8 = 0 by omega] at fin
    exact fin
