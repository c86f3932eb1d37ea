-- ===== the hall: sound, together, where, shift =====
noncomputable def rz_lt (spk : Nat → Int) (X Y : Nat → Int32) (x y : Int32) (p : Nat) : Int := spk p + (rz_wyf (X p) (Y p) x y : Int)
def rz_HC (e : Nat → Nat → Int) (bg : Nat → Int) (np nb : Nat) (spk : Nat → Int) (X Y : Nat → Int32) (τ : ra_S) : Prop := rz_TC e bg np nb τ ∧ ∀ p, p < np → τ.1 63 p = X p ∧ τ.1 64 p = Y p ∧ rz_in (X p) 0 40 ∧ rz_in (Y p) 0 40 ∧ τ.1 21 p = Int32.ofInt (spk p) ∧ 0 ≤ spk p ∧ spk p ≤ 300
def rz_HM (e : Nat → Nat → Int) (bg : Nat → Int) (np nb : Nat) (spk : Nat → Int) (X Y : Nat → Int32) (τ : ra_S) : Prop := rz_TM e bg np nb τ ∧ ∀ p, p < np → τ.1 93 (5 * p + 1) = X p ∧ τ.1 93 (5 * p + 2) = Y p ∧ rz_in (X p) 0 40 ∧ rz_in (Y p) 0 40 ∧ τ.1 93 (5 * p + 3) = Int32.ofInt (spk p) ∧ 0 ≤ spk p ∧ spk p ≤ 300
theorem rz_m_wyf2 (σ : ra_S) {x y x2 y2 : Int32} (h1 : rz_in x 0 40) (h2 : rz_in y 0 40) (h3 : rz_in x2 0 40) (h4 : rz_in y2 0 40) : ra_C 179 [.int x, .int y, .int x2, .int y2] σ = ra_I (nI (rz_wyf x y x2 y2)) σ := by
  obtain ⟨a, ha, rfl⟩ := rz_i40 h1
  obtain ⟨b, hb, rfl⟩ := rz_i40 h2
  obtain ⟨c, hc, rfl⟩ := rz_i40 h3
  obtain ⟨d, hd, rfl⟩ := rz_i40 h4
  obtain ⟨n, hn, u1, u2⟩ := rz_under (a := a) (b := c) (c := b) (d := d) ha hc hb hd
  rw [rz_m_wayOf σ hn u2]
  unfold rz_wyf
  rw [u1, nI_clamp (by omega)]
/-- how late, as the class hears it -/
theorem rz_c_hear {np : Nat} {spk : Nat → Int} {X Y : Nat → Int32} {τ : ra_S} (h1 : τ.1 16 0 = nI np) (h2 : np ≤ 8) (h : ∀ p, p < np → τ.1 63 p = X p ∧ τ.1 64 p = Y p ∧ rz_in (X p) 0 40 ∧ rz_in (Y p) 0 40 ∧ τ.1 21 p = Int32.ofInt (spk p) ∧ 0 ≤ spk p ∧ spk p ≤ 300) {x y : Int32} (hx : rz_in x 0 40) (hy : rz_in y 0 40) : ∃ υ : ra_S, ra_C 52 [.ref 72, .ref 16, .ref 62, .int x, .int y] τ = ra_V υ ∧ (∀ c, c ≠ 76 → υ.1 c = τ.1 c) ∧ υ.2 = τ.2 ∧ ∀ p, p < np → υ.1 76 p = Int32.ofInt (rz_lt spk X Y x y p) := by
  have loop : ∀ d k, k + d = np → ∀ υ : ra_S, (∀ c, c ≠ 76 → υ.1 c = τ.1 c) → υ.2 = τ.2 → (∀ p, p < k → υ.1 76 p = Int32.ofInt (rz_lt spk X Y x y p)) → ∃ υ' : ra_S, ra_D (ra_lay, none, 99999, ra_m52) 3 [some (.ref 72), some (.ref 16), some (.ref 62), some (.int x), some (.int y), some (.int (nI k))] [] υ = ra_V υ' ∧ (∀ c, c ≠ 76 → υ'.1 c = τ.1 c) ∧ υ'.2 = τ.2 ∧ ∀ p, p < np → υ'.1 76 p = Int32.ofInt (rz_lt spk X Y x y p) := by
    intro d
    induction d with
    | zero =>
      intro k hk υ g1 g2 g3
      have : k = np := by omega
      subst this
      rw [e_52_3, g1 16 (by decide), h1, rz_inl (by omega) (by omega)]
      exact ⟨υ, rfl, g1, g2, g3⟩
    | succ d ih =>
      intro k hk υ g1 g2 g3
      obtain ⟨k1, k2, k3, k4, k5, k6, k7⟩ := h k (by omega)
      rw [e_52_3, g1 16 (by decide), h1, rz_il (by omega) (by omega), show (8 : Int32) = nI 8 from rfl, rz_il (by omega) (by omega), rz_ig (by omega) (by omega), rz_ig (by omega) (by omega), rz_ig (by omega) (by omega), nI_clamp (by omega), g1 63 (by decide), g1 64 (by decide), g1 21 (by decide), k1, k2, k5, rz_c_wyf υ k3 k4 hx hy, ra_kI, rz_ig (by omega) (by omega), nI_1, rz_nIo (rz_wyf (X k) (Y k) x y), ← Int32.ofInt_add]
      refine ih (k + 1) (by omega) _ (fun c hc => by rw [ra_ui_1 c hc]; exact g1 c hc) g2 (fun p hp => ?_)
      rw [ra_ui_get]
      by_cases z : p = k
      · rw [if_pos ⟨rfl, z⟩, z]; rfl
      · rw [if_neg (fun y => z y.2)]; exact g3 p (by omega)
  obtain ⟨υ, e, g⟩ := loop np 0 (by omega) τ (fun _ _ => rfl) rfl (fun p hp => by omega)
  exact ⟨υ, by rw [e_52]; exact e, g⟩
theorem rz_lt_in {np : Nat} {spk : Nat → Int} {X Y : Nat → Int32} {x y : Int32} (hx : rz_in x 0 40) (hy : rz_in y 0 40) {p : Nat} (h : rz_in (X p) 0 40 ∧ rz_in (Y p) 0 40 ∧ 0 ≤ spk p ∧ spk p ≤ 300) : 0 ≤ rz_lt spk X Y x y p ∧ rz_lt spk X Y x y p ≤ 600 := by
  have := rz_wyf_lt h.1 h.2.1 hx hy
  unfold rz_lt
  omega
/-- the sum over d beats from a on -/
def rz_tg (g : Nat → Nat → Int) (np a : Nat) : Nat → Int
  | 0 => 0
  | d + 1 => rz_tg g np a d + rz_wd (g (a + d)) np
theorem rz_tg_in {g : Nat → Nat → Int} {np a : Nat} : ∀ d, (∀ b q, b < a + d → q < np → -1050000000 ≤ g b q ∧ g b q ≤ 1050000000) → 0 ≤ rz_tg g np a d ∧ rz_tg g np a d ≤ 2100000000 * (d : Int)
  | 0, _ => by unfold rz_tg; omega
  | d + 1, h => by
    have i := rz_tg_in (g := g) (np := np) (a := a) d (fun b q hb hq => h b q (by omega) hq)
    have j := rz_wd_in (g := g (a + d)) (np := np) (fun q hq => h (a + d) q (by omega) hq)
    rw [rz_tg]; omega
noncomputable abbrev rz_tgv (e : Nat → Nat → Int) (spk : Nat → Int) (X Y : Nat → Int32) (np : Nat) (x y : Int32) (a b : Nat) : Int := rz_tg (fun n p => e n p + rz_lt spk X Y x y p) np a (b + 1 - a)
theorem rz_w49b (σ : ra_S) {np b k : Nat} (hn : np ≤ 8) (hb : b < 40) (hk : k < np) {s v6 v7 : Int32} (hs : σ.1 73 (8 * b + k) + σ.1 76 k = s) (o1 o2 o9 : Option Value) : ra_D (ra_lay, none, 99999, ra_m49) 53 [some (.ref 72), o1, o2, some (.ref 76), some (.int (nI (b * 8))), some (.int (nI np)), some (.int v6), some (.int v7), some (.int (nI k)), o9] [] σ = ra_D (ra_lay, none, 99999, ra_m49) 53 [some (.ref 72), o1, o2, some (.ref 76), some (.int (nI (b * 8))), some (.int (nI np)), some (.int (if s < v6 then s else v6)), some (.int (if v7 < s then s else v7)), some (.int (nI (k + 1))), some (.int s)] [] σ := by
  refine (e_49b_53 o1 o2 (nI (b * 8)) (nI np) v6 v7 (nI k) o9 σ).trans ?_
  rw [rz_il (by omega) (by omega), show (8 : Int32) = nI 8 from rfl, rz_il (by omega) (by omega), nI_add, rz_ig (by omega) (by omega), rz_ig (by omega) (by omega), nI_clamp (by omega), nI_clamp (by omega), show b * 8 + k = 8 * b + k by omega, hs]
  by_cases a : s < v6
  · rw [if_pos a, if_pos a, e_49b_95, nI_1]
    by_cases c : v7 < s
    · rw [if_pos c, if_pos c]
    · rw [if_neg c, if_neg c]
  · rw [if_neg a, if_neg a, e_49b_95, nI_1]
    by_cases c : v7 < s
    · rw [if_pos c, if_pos c]
    · rw [if_neg c, if_neg c]
theorem rz_cTb (σ : ra_S) {e : Nat → Nat → Int} {bg : Nat → Int} {np nb : Nat} (h : rz_TC e bg np nb σ) {g : Nat → Int} {b : Nat} (hb : b < nb) (hg : ∀ p, p < np → σ.1 73 (8 * b + p) + σ.1 76 p = Int32.ofInt (g p) ∧ -1050000000 ≤ g p ∧ g p ≤ 1050000000) : ra_C 49 [.ref 72, .ref 10, .int (nI b), .ref 76] σ = ra_I (Int32.ofInt (rz_wd g np)) σ := by
  obtain ⟨h1, h2, h3, h4, -⟩ := h
  have loop : ∀ d k, k + d = np → 1 ≤ k → ∀ o7 : Option Value, ra_D (ra_lay, none, 99999, ra_m49) 53 [some (.ref 72), some (.ref 10), some (.int (nI b)), some (.ref 76), some (.int (nI (b * 8))), some (.int (nI np)), some (.int (Int32.ofInt (rz_mn g (k - 1)))), some (.int (Int32.ofInt (rz_mx g (k - 1)))), some (.int (nI k)), o7] [] σ = ra_I (Int32.ofInt (rz_wd g np)) σ := by
    intro d
    induction d with
    | zero =>
      intro k hk k1 o7
      have : k = np := by omega
      subst this
      rw [e_49b_53, rz_inl (by omega) (by omega), ← Int32.ofInt_sub]
      unfold rz_wd
      rw [if_neg (by omega)]
    | succ d ih =>
      intro k hk k1 o7
      obtain ⟨g1, g2⟩ := hg k (by omega)
      have ii := rz_mnx_in (k - 1) (fun q hq => (hg q (by omega)).2)
      have i := ih (k + 1) (by omega) (by omega)
      rw [show k + 1 - 1 = k - 1 + 1 by omega, rz_mn, rz_mx, show k - 1 + 1 = k by omega] at i
      rw [rz_w49b σ h2 (by omega) (by omega) g1]
      have q1 : (if Int32.ofInt (g k) < Int32.ofInt (rz_mn g (k - 1)) then Int32.ofInt (g k) else Int32.ofInt (rz_mn g (k - 1))) = Int32.ofInt (if g k < rz_mn g (k - 1) then g k else rz_mn g (k - 1)) := by
        by_cases z : g k < rz_mn g (k - 1)
        · rw [if_pos z, if_pos ((rz_oLt (by omega) (by omega) (by omega) (by omega)).mpr z)]
        · rw [if_neg z, if_neg (fun y => z ((rz_oLt (by omega) (by omega) (by omega) (by omega)).mp y))]
      have q2 : (if Int32.ofInt (rz_mx g (k - 1)) < Int32.ofInt (g k) then Int32.ofInt (g k) else Int32.ofInt (rz_mx g (k - 1))) = Int32.ofInt (if rz_mx g (k - 1) < g k then g k else rz_mx g (k - 1)) := by
        by_cases z : rz_mx g (k - 1) < g k
        · rw [if_pos z, if_pos ((rz_oLt (by omega) (by omega) (by omega) (by omega)).mpr z)]
        · rw [if_neg z, if_neg (fun y => z ((rz_oLt (by omega) (by omega) (by omega) (by omega)).mp y))]
      rw [q1, q2]
      exact i _
  rw [e_49b, h1]
  by_cases z : np = 0
  · subst z
    rw [if_pos (show nI 0 = (0 : Int32) from rfl)]; rfl
  · obtain ⟨g1, g2⟩ := hg 0 (by omega)
    rw [if_neg (nI_ne0 (by omega) (by omega)), if_neg (nI_pos (by omega)), show (40 : Int32) = nI 40 from rfl, rz_il (by omega) (by omega), show (8 : Int32) = nI 8 from rfl, rz_mid47, ra_kI, rz_inl (by omega) (by omega), pk_mul, show (0 : Int32) = nI 0 from rfl, rz_w49b σ (k := 0) h2 (by omega) (by omega) g1, if_pos (show Int32.ofInt (g 0) < (2147483647 : Int32) by rw [Int32.lt_iff_toInt_lt, rz_oI (by omega) (by omega)]; show g 0 < (2147483647 : Int); omega), if_pos (show (-2147483648 : Int32) < Int32.ofInt (g 0) by rw [Int32.lt_iff_toInt_lt, rz_oI (by omega) (by omega)]; show (-2147483648 : Int) < g 0; omega)]
    exact loop (np - 1) 1 (by omega) (by omega) _
theorem rz_HC_eq {e : Nat → Nat → Int} {bg : Nat → Int} {np nb : Nat} {spk : Nat → Int} {X Y : Nat → Int32} {σ τ : ra_S} (fr : ∀ c, c ≠ 76 → τ.1 c = σ.1 c) (h : rz_HC e bg np nb spk X Y σ) : rz_HC e bg np nb spk X Y τ := by
  unfold rz_HC rz_TC at h ⊢
  simp only [fr 16 (by decide), fr 10 (by decide), fr 75 (by decide), fr 25 (by decide), fr 73 (by decide), fr 63 (by decide), fr 64 (by decide), fr 21 (by decide)]
  exact h
theorem rz_HM_eq {e : Nat → Nat → Int} {bg : Nat → Int} {np nb : Nat} {spk : Nat → Int} {X Y : Nat → Int32} {σ τ : ra_S} (fr : ∀ c, c ≠ 104 → τ.1 c = σ.1 c) (h : rz_HM e bg np nb spk X Y σ) : rz_HM e bg np nb spk X Y τ := by
  unfold rz_HM rz_TM at h ⊢
  simp only [fr 86 (by decide), fr 89 (by decide), fr 102 (by decide), fr 93 (by decide)]
  exact h
theorem rz_c_tg {e : Nat → Nat → Int} {bg : Nat → Int} {np nb : Nat} {spk : Nat → Int} {X Y : Nat → Int32} {τ0 τ : ra_S} (h : rz_HC e bg np nb spk X Y τ0) (fr : ∀ c, c ≠ 76 → τ.1 c = τ0.1 c) {x y : Int32} (hx : rz_in x 0 40) (hy : rz_in y 0 40) {a b : Nat} (hab : a ≤ b) (hb : b < nb) : ∃ υ : ra_S, ra_C 53 [.ref 72, .ref 10, .ref 62, .int x, .int y, .int (nI a), .int (nI b)] τ = ra_J (rz_L (rz_tgv e spk X Y np x y a b)) υ ∧ (∀ c, c ≠ 76 → υ.1 c = τ0.1 c) ∧ υ.2 = τ.2 := by
  have h' := rz_HC_eq fr h
  obtain ⟨υ, e1, g1, g2, g3⟩ := rz_c_hear h'.1.1 h'.1.2.1 h'.2 hx hy
  have hu := rz_HC_eq g1 h'
  have nb4 := h.1.2.2.2.1
  refine ⟨υ, ?_, fun c hc => (g1 c hc).trans (fr c hc), g2⟩
  have lb : ∀ n p, n < nb → p < np → -1050000000 ≤ e n p + rz_lt spk X Y x y p ∧ e n p + rz_lt spk X Y x y p ≤ 1050000000 := fun n p hn hp => by
    have i1 := (h.1.2.2.2.2.2.2 n p hn hp).2
    obtain ⟨-, -, k3, k4, -, k6, k7⟩ := h.2 p hp
    have i2 := rz_lt_in (np := np) hx hy (p := p) ⟨k3, k4, k6, k7⟩
    omega
  have loop : ∀ d m, m + d = b + 1 - a → ∀ o2 o3 o4 o5 : Option Value, ra_D (ra_lay, none, 99999, ra_m53) 19 [some (.ref 72), some (.ref 10), o2, o3, o4, o5, some (.int (nI b)), some (.long (rz_L (rz_tg (fun n p => e n p + rz_lt spk X Y x y p) np a m))), none, some (.int (nI (a + m)))] [] υ = ra_J (rz_L (rz_tgv e spk X Y np x y a b)) υ := by
    intro d
    induction d with
    | zero =>
      intro m hm o2 o3 o4 o5
      have : m = b + 1 - a := by omega
      subst this
      rw [e_53_19, rz_il (by omega) (by omega)]
    | succ d ih =>
      intro m hm o2 o3 o4 o5
      have hn : a + m < nb := by omega
      rw [e_53_19, rz_inl (by omega) (by omega), show (40 : Int32) = nI 40 from rfl, rz_il (by omega) (by omega), rz_cTb υ hu.1 hn (g := fun p => e (a + m) p + rz_lt spk X Y x y p) (fun p hp => ⟨by rw [(hu.1.2.2.2.2.2.2 (a + m) p hn hp).1, g3 p hp, ← Int32.ofInt_add], lb (a + m) p hn hp⟩), ra_kI]
      have wi := rz_wd_in (g := fun p => e (a + m) p + rz_lt spk X Y x y p) (np := np) (fun q hq => lb (a + m) q hn hq)
      rw [rz_oLw (by omega) (by omega), rz_L_add, nI_1]
      exact ih (m + 1) (by omega) o2 o3 o4 o5
  rw [e_53, e1, ra_kV]
  exact loop (b + 1 - a) 0 (by omega) _ _ _ _
theorem rz_m_late {e : Nat → Nat → Int} {bg : Nat → Int} {np nb : Nat} {spk : Nat → Int} {X Y : Nat → Int32} {τ : ra_S} (h : rz_HM e bg np nb spk X Y τ) {x y : Int32} (hx : rz_in x 0 40) (hy : rz_in y 0 40) {p : Nat} (hp : p < np) : ra_C 204 [.ref 86, .int (nI p), .int x, .int y] τ = ra_I (Int32.ofInt (rz_lt spk X Y x y p)) τ := by
  obtain ⟨k1, k2, k3, k4, k5, k6, k7⟩ := h.2 p hp
  have := h.1.2.1
  rw [e_204, rz_mul5_3, rz_mul5_1, rz_mul5_2, rz_ig (by omega) (by omega), rz_ig (by omega) (by omega), rz_ig (by omega) (by omega), nI_clamp (by omega), nI_clamp (by omega), nI_clamp (by omega), k1, k2, k5, rz_m_wyf2 τ k3 k4 hx hy, ra_kI, rz_nIo (rz_wyf (X p) (Y p) x y), ← Int32.ofInt_add]
  rfl
set_option maxHeartbeats 2000000 in
theorem rz_m_tg {e : Nat → Nat → Int} {bg : Nat → Int} {np nb : Nat} {spk : Nat → Int} {X Y : Nat → Int32} {τ0 τ : ra_S} (h : rz_HM e bg np nb spk X Y τ0) (fr : ∀ c, c ≠ 104 → τ.1 c = τ0.1 c) {x y : Int32} (hx : rz_in x 0 40) (hy : rz_in y 0 40) {a b : Nat} (hab : a ≤ b) (hb : b < nb) : ∃ υ : ra_S, ra_C 206 [.ref 86, .int x, .int y, .int (nI a), .int (nI b)] τ = ra_J (rz_L (rz_tgv e spk X Y np x y a b)) υ ∧ (∀ c, c ≠ 104 → υ.1 c = τ0.1 c) ∧ υ.2 = τ.2 := by
  have h14 : τ.1 86 14 = nI np := by rw [fr 86 (by decide)]; exact h.1.1
  have h2 := h.1.2.1
  have nb4 := h.1.2.2.2.1
  by_cases z : np = 0
  · subst z
    refine ⟨τ, ?_, fr, rfl⟩
    rw [e_206, h14, if_pos (show nI 0 = (0 : Int32) from rfl)]
    have : ∀ d, rz_tg (fun n p => e n p + rz_lt spk X Y x y p) 0 a d = 0 := by
      intro d
      induction d with
      | zero => rfl
      | succ d ih => rw [rz_tg, ih]; rfl
    show ra_J 0 τ = ra_J (rz_L (rz_tg (fun n p => e n p + rz_lt spk X Y x y p) 0 a (b + 1 - a))) τ
    rw [this]; rfl
  · have lb : ∀ n p, n < nb → p < np → -1050000000 ≤ e n p + rz_lt spk X Y x y p ∧ e n p + rz_lt spk X Y x y p ≤ 1050000000 := fun n p hn hp => by
      have i1 := (h.1.2.2.2.2.2 n p hn hp).2
      obtain ⟨-, -, k3, k4, -, k6, k7⟩ := h.2 p hp
      have i2 := rz_lt_in (np := np) hx hy (p := p) ⟨k3, k4, k6, k7⟩
      omega
    have lay : ∀ d k, k + d = np → ∀ υ : ra_S, (∀ c, c ≠ 104 → υ.1 c = τ0.1 c) → υ.2 = τ.2 → (∀ p, p < k → υ.1 104 p = Int32.ofInt (rz_lt spk X Y x y p)) → ∀ o6 o7 o8 o9 o10 o11 : Option Value, ∃ (υ' : ra_S), ra_D (ra_lay, none, 99999, ra_m206) 12 [some (.ref 86), some (.int x), some (.int y), some (.int (nI a)), some (.int (nI b)), some (.int (nI k)), o6, o7, o8, o9, o10, o11] [] υ = ra_D (ra_lay, none, 99999, ra_m206) 48 [some (.ref 86), some (.int x), some (.int y), some (.int (nI a)), some (.int (nI b)), some (.long 0), none, some (.int (nI a)), o8, o9, o10, o11] [] υ' ∧ (∀ c, c ≠ 104 → υ'.1 c = τ0.1 c) ∧ υ'.2 = τ.2 ∧ (∀ p, p < np → υ'.1 104 p = Int32.ofInt (rz_lt spk X Y x y p)) := by
      intro d
      induction d with
      | zero =>
        intro k hk υ g1 g2 g3 o6 o7 o8 o9 o10 o11
        have : k = np := by omega
        subst this
        rw [e_206_12, g1 86 (by decide), h.1.1, rz_inl (by omega) (by omega)]
        exact ⟨υ, rfl, g1, g2, g3⟩
      | succ d ih =>
        intro k hk υ g1 g2 g3 o6 o7 o8 o9 o10 o11
        rw [e_206_12, g1 86 (by decide), h.1.1, rz_il (by omega) (by omega), rz_m_late (rz_HM_eq g1 h) hx hy (by omega), ra_kI, rz_ig (by omega) (by omega), nI_clamp (by omega), nI_1]
        refine ih (k + 1) (by omega) (ra_ui υ 104 k (Int32.ofInt (rz_lt spk X Y x y k))) (fun c hc => by rw [ra_ui_1 c hc]; exact g1 c hc) g2 (fun p hp => ?_) _ _ _ _ _ _
        rw [ra_ui_get]
        by_cases y : p = k
        · rw [if_pos ⟨rfl, y⟩, y]
        · rw [if_neg (fun x => y x.2)]; exact g3 p (by omega)
    obtain ⟨υ, e1, g1, g2, g3⟩ := lay np 0 (by omega) τ fr rfl (fun p hp => by omega) none none none none none none
    have u14 : υ.1 86 14 = nI np := by rw [g1 86 (by decide)]; exact h.1.1
    refine ⟨υ, ?_, g1, g2⟩
    rw [e_206, h14, if_neg (nI_ne0 (by omega) (by omega)), show (0 : Int32) = nI 0 from rfl, e1]
    have gv : ∀ n p, n < nb → p < np → υ.1 102 (8 * n + p) + υ.1 104 p = Int32.ofInt (e n p + rz_lt spk X Y x y p) := fun n p hn hp => by
      rw [g1 102 (by decide), (h.1.2.2.2.2.2 n p hn hp).1, g3 p hp, ← Int32.ofInt_add]
    have inner : ∀ m, m < nb → ∀ (T : Int) (d k : Nat), k + d = np → 1 ≤ k → ∀ o1 o2 o3 o11 : Option Value, ∃ o8' o9' o10' o11' : Option Value, ra_D (ra_lay, none, 99999, ra_m206) 81 [some (.ref 86), o1, o2, o3, some (.int (nI b)), some (.long (rz_L T)), none, some (.int (nI m)), some (.int (Int32.ofInt (rz_mn (fun p => e m p + rz_lt spk X Y x y p) (k - 1)))), some (.int (Int32.ofInt (rz_mx (fun p => e m p + rz_lt spk X Y x y p) (k - 1)))), some (.int (nI k)), o11] [] υ = ra_D (ra_lay, none, 99999, ra_m206) 48 [some (.ref 86), o1, o2, o3, some (.int (nI b)), some (.long (rz_L (T + rz_wd (fun p => e m p + rz_lt spk X Y x y p) np))), none, some (.int (nI (m + 1))), o8', o9', o10', o11'] [] υ := by
      intro m hm T d
      induction d with
      | zero =>
        intro k hk k1 o1 o2 o3 o11
        have : k = np := by omega
        subst this
        have ii := rz_mnx_in (g := fun p => e m p + rz_lt spk X Y x y p) (k - 1) (fun q hq => lb m q hm (by omega))
        rw [e_206_81, u14, rz_inl (by omega) (by omega), rz_oLw (by omega) (by omega), rz_oLw (by omega) (by omega), rz_L_sub, rz_L_add, nI_1]
        unfold rz_wd
        rw [if_neg z]
        exact ⟨_, _, _, _, rfl⟩
      | succ d ih =>
        intro k hk k1 o1 o2 o3 o11
        have ii := rz_mnx_in (g := fun p => e m p + rz_lt spk X Y x y p) (k - 1) (fun q hq => lb m q hm (by omega))
        have kk := lb m k hm (by omega)
        have i := ih (k + 1) (by omega) (by omega) o1 o2 o3
        rw [show k + 1 - 1 = k - 1 + 1 by omega, rz_mn, rz_mx, show k - 1 + 1 = k by omega] at i
        rw [e_206_81, u14, rz_il (by omega) (by omega), show (8 : Int32) * nI m = nI (8 * m) from pk_mul 8 m, nI_add, rz_ig (by omega) (by omega), rz_ig (by omega) (by omega), nI_clamp (by omega), nI_clamp (by omega), gv m k hm (by omega)]
        have fin : ∀ o8 : Option Value, ∃ o8' o9' o10' o11' : Option Value, ra_D (ra_lay, none, 99999, ra_m206) 127 [some (.ref 86), o1, o2, o3, some (.int (nI b)), some (.long (rz_L T)), none, some (.int (nI m)), o8, some (.int (Int32.ofInt (rz_mx (fun p => e m p + rz_lt spk X Y x y p) (k - 1)))), some (.int (nI k)), some (.int (Int32.ofInt (e m k + rz_lt spk X Y x y k)))] [.int (Int32.ofInt (if e m k + rz_lt spk X Y x y k < rz_mn (fun p => e m p + rz_lt spk X Y x y p) (k - 1) then e m k + rz_lt spk X Y x y k else rz_mn (fun p => e m p + rz_lt spk X Y x y p) (k - 1)))] υ = ra_D (ra_lay, none, 99999, ra_m206) 48 [some (.ref 86), o1, o2, o3, some (.int (nI b)), some (.long (rz_L (T + rz_wd (fun p => e m p + rz_lt spk X Y x y p) np))), none, some (.int (nI (m + 1))), o8', o9', o10', o11'] [] υ := by
          intro o8
          rw [e_206_127, nI_1]
          by_cases w : rz_mx (fun p => e m p + rz_lt spk X Y x y p) (k - 1) < e m k + rz_lt spk X Y x y k
          · rw [if_pos ((rz_oLt (by omega) (by omega) (by omega) (by omega)).mpr w)]
            rw [if_pos w] at i
            exact i _
          · rw [if_neg (fun w' => w ((rz_oLt (by omega) (by omega) (by omega) (by omega)).mp w'))]
            rw [if_neg w] at i
            exact i _
        by_cases w : e m k + rz_lt spk X Y x y k < rz_mn (fun p => e m p + rz_lt spk X Y x y p) (k - 1)
        · rw [if_pos ((rz_oLt (by omega) (by omega) (by omega) (by omega)).mpr w)]
          have := fin (some (.int (Int32.ofInt (rz_mn (fun p => e m p + rz_lt spk X Y x y p) (k - 1)))))
          rw [if_pos w] at this
          exact this
        · rw [if_neg (fun w' => w ((rz_oLt (by omega) (by omega) (by omega) (by omega)).mp w'))]
          have := fin (some (.int (Int32.ofInt (rz_mn (fun p => e m p + rz_lt spk X Y x y p) (k - 1)))))
          rw [if_neg w] at this
          exact this
    have loop : ∀ d m, m + d = b + 1 - a → ∀ o1 o2 o3 o8 o9 o10 o11 : Option Value, ra_D (ra_lay, none, 99999, ra_m206) 48 [some (.ref 86), o1, o2, o3, some (.int (nI b)), some (.long (rz_L (rz_tg (fun n p => e n p + rz_lt spk X Y x y p) np a m))), none, some (.int (nI (a + m))), o8, o9, o10, o11] [] υ = ra_J (rz_L (rz_tgv e spk X Y np x y a b)) υ := by
      intro d
      induction d with
      | zero =>
        intro m hm o1 o2 o3 o8 o9 o10 o11
        have : m = b + 1 - a := by omega
        subst this
        rw [e_206_48, rz_il (by omega) (by omega)]
      | succ d ih =>
        intro m hm o1 o2 o3 o8 o9 o10 o11
        have hn : a + m < nb := by omega
        have g0 := gv (a + m) 0 hn (by omega)
        rw [Nat.add_zero] at g0
        rw [e_206_48, rz_inl (by omega) (by omega), show (8 : Int32) * nI (a + m) = nI (8 * (a + m)) from pk_mul 8 (a + m), rz_ig (by omega) (by omega), nI_clamp (by omega), g0]
        obtain ⟨q8, q9, q10, q11, i⟩ := inner (a + m) hn (rz_tg (fun n p => e n p + rz_lt spk X Y x y p) np a m) (np - 1) 1 (by omega) (by omega) o1 o2 o3 o11
        have i' := i
        rw [show rz_mn (fun p => e (a + m) p + rz_lt spk X Y x y p) (1 - 1) = e (a + m) 0 + rz_lt spk X Y x y 0 from rfl, show rz_mx (fun p => e (a + m) p + rz_lt spk X Y x y p) (1 - 1) = e (a + m) 0 + rz_lt spk X Y x y 0 from rfl] at i'
        rw [show (1 : Int32) = nI 1 from rfl, i']
        exact ih (m + 1) (by omega) o1 o2 o3 _ _ _ _
    exact loop (b + 1 - a) 0 (by omega) _ _ _ _ _ _ _
-- ===== the calls =====
def rz_spk (σ : ra_S) (p : Nat) : Int := (σ.1 93 (5 * p + 3)).toInt
theorem rz_HC_mk {np nb nl nw : Nat} {len : Nat → Nat} {σ υ : ra_S} (hB : rz_base np nb nl nw len σ) (hf : rz_ft σ υ) {e : Nat → Nat → Int} {bg : Nat → Int} (t : rz_TC e bg np nb υ) (c : ∀ p, p < np → υ.1 63 p = rz_X0 σ p ∧ υ.1 64 p = rz_Y0 σ p) : rz_HC e bg np nb (rz_spk σ) (rz_X0 σ) (rz_Y0 σ) υ := by
  refine ⟨t, fun p hp => ?_⟩
  obtain ⟨⟨s1, s2⟩, ⟨s3, s4⟩, -⟩ := hB.2.2.2.2.2.1 p hp
  obtain ⟨p1, p2⟩ := (hB.2.2.1 p hp).2.2.1
  refine ⟨(c p hp).1, (c p hp).2, rz_in40 s2, rz_in40 s4, ?_, p2.1, p2.2⟩
  rw [hf.1 21 (by omega), p1]
  exact (rz_ofI _).symm
theorem rz_HM_mk {np nb nl nw : Nat} {len : Nat → Nat} {σ υ : ra_S} (hB : rz_base np nb nl nw len σ) (hf : rz_ft σ υ) {e : Nat → Nat → Int} {bg : Nat → Int} (t : rz_TM e bg np nb υ) : rz_HM e bg np nb (rz_spk σ) (rz_X0 σ) (rz_Y0 σ) υ := by
  refine ⟨t, fun p hp => ?_⟩
  obtain ⟨⟨s1, s2⟩, ⟨s3, s4⟩, -⟩ := hB.2.2.2.2.2.1 p hp
  obtain ⟨p1, p2⟩ := (hB.2.2.1 p hp).2.2.1
  rw [hf.1 93 (by omega)]
  exact ⟨rfl, rfl, rz_in40 s2, rz_in40 s4, (rz_ofI _).symm, p2.1, p2.2⟩
theorem rz_sound {σ : ra_S} (h : rz_R σ) (a b x y : Int32) : rz_OI 96 205 [.int a, .int b, .int x, .int y] σ := by
  obtain ⟨np, nb, nl, nw, len, hB⟩ := rz_base_of h
  have f0 := rz_ft.rf σ
  have f0' := f0.u2 (x := 0)
  have c3 := hB.1.1.2.2
  have c6 := hB.1.2.1.2.2
  by_cases v1 : 0 ≤ a.toInt ∧ a.toInt < np
  · by_cases v2 : 0 ≤ b.toInt ∧ b.toInt < nb
    · by_cases v3 : (0 ≤ x.toInt ∧ x.toInt ≤ 40) ∧ (0 ≤ y.toInt ∧ y.toInt ≤ 40)
      · obtain ⟨υ, e1, f1, t1, ca⟩ := rz_asC hB f0
        have hc := rz_HC_mk hB f1 t1 ca
        obtain ⟨υ1, e3, g1, g2, g3⟩ := rz_c_hear hc.1.1 hc.1.2.1 hc.2 v3.1 v3.2
        have f3 : rz_ft σ υ1 := rz_ft.of f1 (fun c hc => g1 c (by omega))
        obtain ⟨υ2, e2, f2, t2⟩ := rz_asM hB (f3.u2 (x := 0))
        have hm := rz_HM_mk hB f2 t2
        obtain ⟨p, hp, rfl⟩ := rz_nat (by omega) v1
        obtain ⟨n, hn, rfl⟩ := rz_nat (by omega) v2
        refine ⟨Int32.ofInt (rz_e (rz_EP σ len np nw) np n p) + Int32.ofInt (rz_lt (rz_spk σ) (rz_X0 σ) (rz_Y0 σ) x y p), υ1, υ2, ?_, ?_, rz_R_ft f2 h⟩
        · rw [e_96, rz_kPc hB f0, ra_kI, rz_t v1, rz_kBc hB f0, ra_kI, rz_t v2, ra_c_isSeat, ra_kI, rz_t v3, e1, ra_kV, e3, ra_kV, rz_c_at (by omega) (by omega), ra_kI, rz_ig (by omega) (by omega), nI_clamp (by omega), g1 73 (by decide), (t1.2.2.2.2.2.2 n p hn hp).1, g3 p hp]
        · rw [e_205, rz_kPm hB (f3.u2), ra_kI, rz_t v1, rz_kBm hB (f3.u2), ra_kI, rz_t v2, ra_m_isSeat, ra_kI, rz_t v3, e2, ra_kV, show (8 : Int32) * nI n = nI (8 * n) from pk_mul 8 n, nI_add, rz_ig (by omega) (by omega), nI_clamp (by omega), rz_m_late hm v3.1 v3.2 hp, ra_kI, (t2.2.2.2.2.2 n p hn hp).1]
      · refine ⟨-2147483648, σ, ra_ui σ 86 2 0, ?_, ?_, rz_R_ft f0' h⟩
        · rw [e_96, rz_kPc hB f0, ra_kI, rz_t v1, rz_kBc hB f0, ra_kI, rz_t v2, ra_c_isSeat, ra_kI, rz_f v3]
        · rw [e_205, rz_kPm hB f0', ra_kI, rz_t v1, rz_kBm hB f0', ra_kI, rz_t v2, ra_m_isSeat, ra_kI, rz_f v3]
    · refine ⟨-2147483648, σ, ra_ui σ 86 2 0, ?_, ?_, rz_R_ft f0' h⟩
      · rw [e_96, rz_kPc hB f0, ra_kI, rz_t v1, rz_kBc hB f0, ra_kI, rz_f v2]
      · rw [e_205, rz_kPm hB f0', ra_kI, rz_t v1, rz_kBm hB f0', ra_kI, rz_f v2]
  · refine ⟨-2147483648, σ, ra_ui σ 86 2 0, ?_, ?_, rz_R_ft f0' h⟩
    · rw [e_96, rz_kPc hB f0, ra_kI, rz_f v1]
    · rw [e_205, rz_kPm hB f0', ra_kI, rz_f v1]
theorem rz_together {σ : ra_S} (h : rz_R σ) (x y a b : Int32) : rz_OJ 97 208 [.int x, .int y, .int a, .int b] σ := by
  obtain ⟨np, nb, nl, nw, len, hB⟩ := rz_base_of h
  have f0 := rz_ft.rf σ
  have f0' := f0.u2 (x := 0)
  have c3 := hB.1.1.2.2
  have c6 := hB.1.2.1.2.2
  by_cases v3 : (0 ≤ x.toInt ∧ x.toInt ≤ 40) ∧ (0 ≤ y.toInt ∧ y.toInt ≤ 40)
  · by_cases v2 : 0 ≤ a.toInt ∧ a.toInt ≤ b.toInt ∧ b.toInt < nb
    · obtain ⟨υ, e1, f1, t1, ca⟩ := rz_asC hB f0
      obtain ⟨b', hb, rfl⟩ := rz_nat (n := nb) (by omega) (show 0 ≤ b.toInt ∧ b.toInt < nb by omega)
      obtain ⟨a', ha, rfl⟩ := rz_nat (n := nb) (by omega) (show 0 ≤ a.toInt ∧ a.toInt < nb by omega)
      have hab : a' ≤ b' := by rw [nI_toInt (by omega), nI_toInt (by omega)] at v2; omega
      obtain ⟨υ1, e3, g1, g2⟩ := rz_c_tg (rz_HC_mk hB f1 t1 ca) (fun _ _ => rfl) v3.1 v3.2 hab hb
      have f3 : rz_ft σ υ1 := rz_ft.of f1 (fun c hc => g1 c (by omega))
      obtain ⟨υ2, e2, f2, t2⟩ := rz_asM hB (f3.u2 (x := 0))
      obtain ⟨υ4, e4, k1, k2⟩ := rz_m_tg (rz_HM_mk hB f2 t2) (fun _ _ => rfl) v3.1 v3.2 hab hb
      refine ⟨rz_L (rz_tgv (rz_e (rz_EP σ len np nw) np) (rz_spk σ) (rz_X0 σ) (rz_Y0 σ) np x y a' b'), υ1, υ4, ?_, ?_, rz_R_ft (rz_ft.of f2 (fun c hc => k1 c (by omega))) h⟩
      · rw [e_97, ra_c_isSeat, ra_kI, rz_t v3, rz_kSc hB f0, ra_kI, rz_t v2, e1, ra_kV, e3, ra_kJ]
      · rw [e_208, ra_m_isSeat, ra_kI, rz_t v3, rz_kSm hB (f3.u2), ra_kI, rz_t v2, e2, ra_kV, e4, ra_kJ]
    · refine ⟨-1, σ, ra_ui σ 86 2 0, ?_, ?_, rz_R_ft f0' h⟩
      · rw [e_97, ra_c_isSeat, ra_kI, rz_t v3, rz_kSc hB f0, ra_kI, rz_f v2]
      · rw [e_208, ra_m_isSeat, ra_kI, rz_t v3, rz_kSm hB f0', ra_kI, rz_f v2]
  · refine ⟨-1, σ, ra_ui σ 86 2 0, ?_, ?_, rz_R_ft f0' h⟩
    · rw [e_97, ra_c_isSeat, ra_kI, rz_f v3]
    · rw [e_208, ra_m_isSeat, ra_kI, rz_f v3]
/-- the greatest, of k from 0 on -/
def rz_gm (g : Nat → Int) : Nat → Int
  | 0 => 0
  | n + 1 => if rz_gm g n < g n then g n else rz_gm g n
theorem rz_gm_in {g : Nat → Int} : ∀ n, (∀ q, q < n → 0 ≤ g q ∧ g q ≤ 600) → 0 ≤ rz_gm g n ∧ rz_gm g n ≤ 600
  | 0, _ => by unfold rz_gm; omega
  | n + 1, h => by
    have i := rz_gm_in n (fun q hq => h q (by omega))
    have j := h n (by omega)
    rw [rz_gm]
    split <;> omega
theorem rz_shift {σ : ra_S} (h : rz_R σ) (a x y : Int32) : rz_OI 99 210 [.int a, .int x, .int y] σ := by
  obtain ⟨np, nb, nl, nw, len, hB⟩ := rz_base_of h
  have f0 := rz_ft.rf σ
  have f0' := f0.u2 (x := 0)
  have c3 := hB.1.1.2.2
  by_cases v1 : 0 ≤ a.toInt ∧ a.toInt < np
  · by_cases v3 : (0 ≤ x.toInt ∧ x.toInt ≤ 40) ∧ (0 ≤ y.toInt ∧ y.toInt ≤ 40)
    · obtain ⟨υ, e, f1, fit, g1, g2, g3, g4⟩ := rz_fillF hB f0
      have hh : ∀ p, p < np → υ.1 63 p = rz_X0 σ p ∧ υ.1 64 p = rz_Y0 σ p ∧ rz_in (rz_X0 σ p) 0 40 ∧ rz_in (rz_Y0 σ p) 0 40 ∧ υ.1 21 p = Int32.ofInt (rz_spk σ p) ∧ 0 ≤ rz_spk σ p ∧ rz_spk σ p ≤ 300 := fun p hp => by
        obtain ⟨-, -, k3, k4, k5, k6, -⟩ := fit p hp
        obtain ⟨p1, p2⟩ := (hB.2.2.1 p hp).2.2.1
        exact ⟨k3, k4, k5, k6, by rw [f1.1 21 (by omega), p1]; exact (rz_ofI _).symm, p2.1, p2.2⟩
      have c1 : υ.1 16 0 = nI np := by rw [f1.1 16 (by omega)]; exact hB.1.1.1
      obtain ⟨υ1, e3, k1, k2, k3⟩ := rz_c_hear c1 c3 hh v3.1 v3.2
      have f3 : rz_ft σ υ1 := rz_ft.of f1 (fun c hc => k1 c (by omega))
      have c2 : υ1.1 16 0 = nI np := by rw [k1 16 (by decide)]; exact c1
      obtain ⟨p, hp, rfl⟩ := rz_nat (by omega) v1
      have li : ∀ q, q < np → 0 ≤ rz_lt (rz_spk σ) (rz_X0 σ) (rz_Y0 σ) x y q ∧ rz_lt (rz_spk σ) (rz_X0 σ) (rz_Y0 σ) x y q ≤ 600 := fun q hq => by
        obtain ⟨-, -, k5, k6, -, k8, k9⟩ := hh q hq
        exact rz_lt_in (np := np) v3.1 v3.2 ⟨k5, k6, k8, k9⟩
      have m14 : (ra_ui υ1 86 2 0).1 86 14 = nI np := by rw [f3.u2.2 14 (by decide)]; exact hB.1.1.2.1
      have lm : ∀ q, q < np → ra_C 204 [.ref 86, .int (nI q), .int x, .int y] (ra_ui υ1 86 2 0) = ra_I (Int32.ofInt (rz_lt (rz_spk σ) (rz_X0 σ) (rz_Y0 σ) x y q)) (ra_ui υ1 86 2 0) := fun q hq => by
        obtain ⟨⟨s1, s2⟩, ⟨s3, s4⟩, -⟩ := hB.2.2.2.2.2.1 q hq
        rw [e_204, rz_mul5_3, rz_mul5_1, rz_mul5_2, rz_ig (by omega) (by omega), rz_ig (by omega) (by omega), rz_ig (by omega) (by omega), nI_clamp (by omega), nI_clamp (by omega), nI_clamp (by omega), (f3.u2 (x := 0)).1 93 (by omega), rz_m_wyf2 _ (rz_in40 s2) (rz_in40 s4) v3.1 v3.2, ra_kI, rz_nIo]
        unfold rz_lt rz_spk rz_X0 rz_Y0
        rw [Int32.ofInt_add, rz_ofI]
      have lc : ∀ d k, k + d = np → ∀ o2 o3 : Option Value, ra_D (ra_lay, none, 99999, ra_m99) 59 [some (.ref 0), some (.int (nI p)), o2, o3, some (.int (Int32.ofInt (rz_gm (rz_lt (rz_spk σ) (rz_X0 σ) (rz_Y0 σ) x y) k))), some (.int (nI k))] [] υ1 = ra_I (Int32.ofInt (rz_gm (rz_lt (rz_spk σ) (rz_X0 σ) (rz_Y0 σ) x y) np) - Int32.ofInt (rz_lt (rz_spk σ) (rz_X0 σ) (rz_Y0 σ) x y p)) υ1 := by
        intro d
        induction d with
        | zero =>
          intro k hk o2 o3
          have : k = np := by omega
          subst this
          rw [e_99_59, c2, rz_inl (by omega) (by omega), e_99_104, rz_ig (by omega) (by omega), nI_clamp (by omega), k3 p hp]
        | succ d ih =>
          intro k hk o2 o3
          have i := ih (k + 1) (by omega) o2 o3
          have gi := rz_gm_in (g := rz_lt (rz_spk σ) (rz_X0 σ) (rz_Y0 σ) x y) k (fun q hq => li q (by omega))
          have lk := li k (by omega)
          rw [rz_gm] at i
          rw [e_99_59, c2, rz_il (by omega) (by omega), if_pos (show nI k < (8 : Int32) from nI_lt (a := k) (b := 8) (by omega) (by omega)), rz_ig (by omega) (by omega), nI_clamp (by omega), k3 k (by omega), rz_max47, ra_kI, nI_1, ← i]
          by_cases z : rz_gm (rz_lt (rz_spk σ) (rz_X0 σ) (rz_Y0 σ) x y) k < rz_lt (rz_spk σ) (rz_X0 σ) (rz_Y0 σ) x y k
          · rw [if_pos z, if_pos ((rz_oLt (by omega) (by omega) (by omega) (by omega)).mpr z)]
          · rw [if_neg z, if_neg (fun w => z ((rz_oLt (by omega) (by omega) (by omega) (by omega)).mp w))]
      have lm2 : ∀ d k, k + d = np → ra_D (ra_lay, none, 99999, ra_m210) 29 [some (.ref 86), some (.int (nI p)), some (.int x), some (.int y), some (.int (Int32.ofInt (rz_gm (rz_lt (rz_spk σ) (rz_X0 σ) (rz_Y0 σ) x y) k))), some (.int (nI k))] [] (ra_ui υ1 86 2 0) = ra_I (Int32.ofInt (rz_gm (rz_lt (rz_spk σ) (rz_X0 σ) (rz_Y0 σ) x y) np) - Int32.ofInt (rz_lt (rz_spk σ) (rz_X0 σ) (rz_Y0 σ) x y p)) (ra_ui υ1 86 2 0) := by
        intro d
        induction d with
        | zero =>
          intro k hk
          have : k = np := by omega
          subst this
          rw [e_210_29, m14, rz_inl (by omega) (by omega), lm p hp, ra_kI]
        | succ d ih =>
          intro k hk
          have i := ih (k + 1) (by omega)
          have gi := rz_gm_in (g := rz_lt (rz_spk σ) (rz_X0 σ) (rz_Y0 σ) x y) k (fun q hq => li q (by omega))
          have lk := li k (by omega)
          rw [rz_gm] at i
          rw [e_210_29, m14, rz_il (by omega) (by omega), lm k (by omega), ra_kI, lm k (by omega), ra_kI, nI_1, ← i]
          by_cases z : rz_gm (rz_lt (rz_spk σ) (rz_X0 σ) (rz_Y0 σ) x y) k < rz_lt (rz_spk σ) (rz_X0 σ) (rz_Y0 σ) x y k
          · rw [if_pos z, if_pos ((rz_oLt (by omega) (by omega) (by omega) (by omega)).mpr z)]
          · rw [if_neg z, if_neg (fun w => z ((rz_oLt (by omega) (by omega) (by omega) (by omega)).mp w))]
      refine ⟨Int32.ofInt (rz_gm (rz_lt (rz_spk σ) (rz_X0 σ) (rz_Y0 σ) x y) np) - Int32.ofInt (rz_lt (rz_spk σ) (rz_X0 σ) (rz_Y0 σ) x y p), υ1, ra_ui υ1 86 2 0, ?_, ?_, rz_R_ft (f3.u2) h⟩
      · rw [e_99, rz_kPc hB f0, ra_kI, rz_t v1, ra_c_isSeat, ra_kI, rz_t v3, e, ra_kV, e3, ra_kV]
        exact lc np 0 (by omega) _ _
      · rw [e_210, rz_kPm hB (f3.u2), ra_kI, rz_t v1, ra_m_isSeat, ra_kI, rz_t v3]
        exact lm2 np 0 (by omega)
    · refine ⟨-1, σ, ra_ui σ 86 2 0, ?_, ?_, rz_R_ft f0' h⟩
      · rw [e_99, rz_kPc hB f0, ra_kI, rz_t v1, ra_c_isSeat, ra_kI, rz_f v3]
      · rw [e_210, rz_kPm hB f0', ra_kI, rz_t v1, ra_m_isSeat, ra_kI, rz_f v3]
  · refine ⟨-1, σ, ra_ui σ 86 2 0, ?_, ?_, rz_R_ft f0' h⟩
    · rw [e_99, rz_kPc hB f0, ra_kI, rz_f v1]
    · rw [e_210, rz_kPm hB f0', ra_kI, rz_f v1]
