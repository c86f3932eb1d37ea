-- ===== the reference's entry of a player at a beat =====
/-- the reference's store as the entries need it -/
def rz_MA (E : rz_En) (np nb : Nat) (τ : ra_S) : Prop := τ.1 86 14 = nI np ∧ τ.1 86 12 = nI nb ∧ np ≤ 8 ∧ nb ≤ 40 ∧ (∀ p, p < np → rz_MP E np (decide (¬ τ.1 86 39 < 0)) τ p) ∧ (∀ p q, p < np → q < np → rz_see E p q = (rz_on τ q && rz_bit (τ.1 94 p) q) ∧ rz_hear E p q = (rz_on τ q && rz_bit (τ.1 95 p) q)) ∧ ∃ len : Nat → Nat, (∀ k, k < nb → τ.1 89 k = nI (len k)) ∧ (∀ n, n ≤ nb → rz_bg E n = (rz_sum len n : Int)) ∧ rz_sum len nb ≤ 10000000
theorem rz_sum_mono (f : Nat → Nat) {n m : Nat} (h : n ≤ m) : rz_sum f n ≤ rz_sum f m := by
  induction m with
  | zero => have : n = 0 := by omega
            subst this; exact Nat.le_refl _
  | succ m ih =>
    by_cases z : n = m + 1
    · subst z; exact Nat.le_refl _
    · have := ih (by omega); rw [rz_sum]; omega
theorem rz_LZ {a : Int} (h1 : -9223372036854775808 ≤ a) (h2 : a < 9223372036854775808) : lg_cmp (rz_L a) (0 : Int64) = 0 ↔ a = 0 := (rz_lc0 _ _).trans (rz_L_eq (b := 0) h1 h2 (by omega) (by omega))
theorem rz_wL {w : Int} (h : 0 ≤ w ∧ w ≤ 9) : (Int32.ofInt w).toInt64 = rz_L w := rz_oL (by omega)
theorem rz_wyf_lt {x y x2 y2 : Int32} (h1 : rz_in x 0 40) (h2 : rz_in y 0 40) (h3 : rz_in x2 0 40) (h4 : rz_in y2 0 40) : rz_wyf x y x2 y2 < 256 := by
  obtain ⟨a, ha, rfl⟩ := rz_i40 h1
  obtain ⟨b, hb, rfl⟩ := rz_i40 h2
  obtain ⟨c, hc, rfl⟩ := rz_i40 h3
  obtain ⟨d, hd, rfl⟩ := rz_i40 h4
  obtain ⟨n, hn, u1, u2⟩ := rz_under (a := a) (b := c) (c := b) (d := d) ha hc hb hd
  unfold rz_wyf
  rw [u1, nI_clamp (by omega)]
  exact rz_sq_lt hn
set_option maxHeartbeats 2000000 in
theorem rz_m_hear {E : rz_En} {np nb b p k : Nat} {τ : ra_S} (h : rz_MA E np nb τ) (ok : rz_Eok E np nb) (hb1 : 1 ≤ b) (hb : b < nb) (hp : p < np) (hk : k < np) {r1 r2 : Nat → Int} (i1 : ∀ q, -1000000000 ≤ r1 q ∧ r1 q ≤ 1000000000) (i2 : ∀ q, -1000000000 ≤ r2 q ∧ r2 q ≤ 1000000000) (h1 : ∀ q, q < np → rz_on τ q = true → τ.1 102 (8 * (b - 1) + q) = Int32.ofInt (r1 q)) (h2 : b ≠ 1 → τ.1 102 (8 * (b - 2) + p) = Int32.ofInt (r2 p)) (op : rz_on τ p = true) (ok' : rz_on τ k = true) {l : Nat} (hl : l < 12) (el : τ.1 93 (5 * p) = nI l) (T W : Int) (o9 o10 : Option Value) :
    ∃ o9' o10', ra_D (ra_lay, none, 99999, ra_m188) 144 [some (.ref 86), some (.int (nI p)), some (.int (nI b)), some (.int (nI (6 * l))), some (.long (rz_L T)), none, some (.long (rz_L W)), none, some (.int (nI k)), o9, o10] [] τ = ra_D (ra_lay, none, 99999, ra_m188) 76 [some (.ref 86), some (.int (nI p)), some (.int (nI b)), some (.int (nI (6 * l))), some (.long (rz_L (T + (if rz_hear E p k then rz_w E p 3 else 0) * (r1 k + rz_gap E b r1 r2 p + rz_dl E p k)))), none, some (.long (rz_L (W + (if rz_hear E p k then rz_w E p 3 else 0)))), none, some (.int (nI (k + 1))), o9', o10'] [] τ := by
  obtain ⟨a1, a2, a3, a4, a5, a6, len, a7, a8, a9⟩ := h
  have mp := a5 p hp
  have w3 := ok.1 p hp 3 (by omega)
  have eh := (a6 p k hp hk).2
  rw [ok', Bool.true_and] at eh
  rw [e_188_144, if_pos (rz_gd (N := 16) (by omega) (by omega)), nI_clamp (by omega), rz_m_bit, ra_kI]
  by_cases z : rz_bit (τ.1 95 p) k = true
  · have tp := rz_m_tempo (E := E) (np := np) (q := k) (p := p) a7 hb1 hb a4 (Nat.le_trans (rz_sum_mono len (by omega)) a9) (a8 1 (by omega)) i1 i2 (h1 p hp op) (h1 k hk ok') h2 (by omega) (by omega)
    have ww := rz_m_w (j := 3) mp (by rw [decide_eq_true_iff]) (by omega) (by omega)
    rw [if_pos z, if_neg (by decide), tp, ra_kJ, rz_mul5_3, if_pos (rz_gd (N := 80) (by omega) (by omega)), nI_clamp (by omega)]
    obtain ⟨l', hl', e1, -, -, -, b1, b2, b3, b4⟩ := id mp
    obtain ⟨_, -, -, -, -, -, c1, c2, c3, -⟩ := a5 k hk
    have ls := e1.symm.trans el
    have ll : l' = l := by
      have := congrArg Int32.toInt ls
      rw [nI_toInt (by omega), nI_toInt (by omega)] at this
      exact Int.ofNat.inj this
    subst ll
    have wy := rz_wyf_lt b2 b3 c2 c3
    rw [rz_m_wyf (by omega) (by omega) b2 b3 c2 c3, ra_kI, show nI (6 * l') + (5 : Int32) = nI (6 * l' + 5) from nI_add _ 5, if_pos (rz_gd (N := 72) (by omega) (by omega)), nI_clamp (by omega), eh, if_pos z]
    have dl := b4 k hk
    unfold rz_ah at dl
    have fin : ∀ t0 : Int32, rz_dl E p k = (τ.1 93 (5 * k + 3)).toInt + (rz_wyf (τ.1 93 (5 * p + 1)) (τ.1 93 (5 * p + 2)) (τ.1 93 (5 * k + 1)) (τ.1 93 (5 * k + 2)) : Int) - t0.toInt → ∃ o9' o10', ra_D (ra_lay, none, 99999, ra_m188) 214 [some (.ref 86), some (.int (nI p)), some (.int (nI b)), some (.int (nI (6 * l'))), some (.long (rz_L T)), none, some (.long (rz_L W)), none, some (.int (nI k)), o9, o10] [.int t0, .long ((rz_L (r1 k + rz_gap E b r1 r2 p) + (τ.1 93 (5 * k + 3)).toInt64) + (nI (rz_wyf (τ.1 93 (5 * p + 1)) (τ.1 93 (5 * p + 2)) (τ.1 93 (5 * k + 1)) (τ.1 93 (5 * k + 2)))).toInt64)] τ = ra_D (ra_lay, none, 99999, ra_m188) 76 [some (.ref 86), some (.int (nI p)), some (.int (nI b)), some (.int (nI (6 * l'))), some (.long (rz_L (T + rz_w E p 3 * (r1 k + rz_gap E b r1 r2 p + rz_dl E p k)))), none, some (.long (rz_L (W + rz_w E p 3))), none, some (.int (nI (k + 1))), o9', o10'] [] τ := by
      intro t0 et
      have ea : r1 k + rz_gap E b r1 r2 p + (τ.1 93 (5 * k + 3)).toInt + (rz_wyf (τ.1 93 (5 * p + 1)) (τ.1 93 (5 * p + 2)) (τ.1 93 (5 * k + 1)) (τ.1 93 (5 * k + 2)) : Int) - t0.toInt = r1 k + rz_gap E b r1 r2 p + rz_dl E p k := by rw [et]; omega
      rw [e_188_214, show (3 : Int32) = nI 3 from rfl, ww, ra_kI, ww, ra_kI, rz_wL w3, rz_32L, rz_32L, rz_32L, nI_toInt (by omega), rz_L_add, rz_L_add, rz_L_sub, rz_L_mul, rz_L_add, rz_L_add, nI_1, ea]
      exact ⟨_, _, rfl⟩
    by_cases c : τ.1 91 (6 * l' + 5) = 1
    · rw [if_pos c] at dl
      rw [if_pos c, rz_mul5_3, if_pos (rz_gd (N := 80) (by omega) (by omega)), nI_clamp (by omega)]
      exact fin _ dl
    · rw [if_neg c] at dl
      rw [if_neg c]
      exact fin 0 dl
  · rw [eh, if_neg z, if_pos rfl, if_neg z, Int.zero_mul, Int.add_zero, Int.add_zero, nI_1]
    exact ⟨o9, o10, rfl⟩
set_option maxHeartbeats 2000000 in
theorem rz_m_loop {E : rz_En} {np nb b p : Nat} {τ : ra_S} (h : rz_MA E np nb τ) (ok : rz_Eok E np nb) (hb1 : 1 ≤ b) (hb : b < nb) (hp : p < np) {r1 r2 : Nat → Int} (i1 : ∀ q, -1000000000 ≤ r1 q ∧ r1 q ≤ 1000000000) (i2 : ∀ q, -1000000000 ≤ r2 q ∧ r2 q ≤ 1000000000) (h1 : ∀ q, q < np → rz_on τ q = true → τ.1 102 (8 * (b - 1) + q) = Int32.ofInt (r1 q)) (h2 : b ≠ 1 → τ.1 102 (8 * (b - 2) + p) = Int32.ofInt (r2 p)) (op : rz_on τ p = true) {l : Nat} (hl : l < 12) (el : τ.1 93 (5 * p) = nI l) :
    ∀ d k, k + d = np → ∀ o9 o10 : Option Value, ra_D (ra_lay, none, 99999, ra_m188) 76 [some (.ref 86), some (.int (nI p)), some (.int (nI b)), some (.int (nI (6 * l))), some (.long (rz_L (rz_fold E b (rz_gap E b r1 r2 p) r1 p k).1)), none, some (.long (rz_L (rz_fold E b (rz_gap E b r1 r2 p) r1 p k).2)), none, some (.int (nI k)), o9, o10] [] τ = ra_J (rz_L (rz_mid E np b r1 r2 p)) τ := by
  obtain ⟨a1, a2, a3, a4, a5, a6, len, a7, a8, a9⟩ := id h
  have mp := a5 p hp
  have w2 := ok.1 p hp 2 (by omega)
  have hg : -2000000000 ≤ rz_gap E b r1 r2 p ∧ rz_gap E b r1 r2 p ≤ 2000000000 := by
    unfold rz_gap
    have := ok.2.2.1 1 (by omega)
    have := i1 p
    have := i2 p
    by_cases z : b = 1
    · rw [if_pos z]; omega
    · rw [if_neg z]; omega
  have fi := rz_fold_in ok (b := b) (by omega) hp hg i1
  intro d
  induction d with
  | zero =>
    intro k hk o9 o10
    have : k = np := by omega
    subst this
    obtain ⟨f1, f2, f3, f4⟩ := fi k (Nat.le_refl _)
    rw [e_188_76, a1, if_neg (nI_nlt (a := k) (b := k) (by omega) (by omega))]
    unfold rz_mid
    by_cases z : (rz_fold E b (rz_gap E b r1 r2 p) r1 p k).2 = 0
    · rw [if_pos ((rz_LZ (by omega) (by omega)).mpr z), if_pos z, rz_m_tempo (E := E) (np := k) (q := p) (p := p) a7 hb1 hb a4 (Nat.le_trans (rz_sum_mono len (by omega)) a9) (a8 1 (by omega)) i1 i2 (h1 p hp op) (h1 p hp op) h2 (by omega) (by omega), ra_kJ]
    · rw [if_neg (fun y => z ((rz_LZ (by omega) (by omega)).mp y)), if_neg z, rz_m_div τ (by omega) (by omega) (by omega) (by omega), ra_kJ]
  | succ d ih =>
    intro k hk o9 o10
    have hk' : k < np := by omega
    have tp := rz_m_tempo (E := E) (np := np) (q := k) (p := p) a7 hb1 hb a4 (Nat.le_trans (rz_sum_mono len (by omega)) a9) (a8 1 (by omega)) i1 i2 (h1 p hp op)
    have st := fun g : rz_on τ k = true => rz_m_hear h ok hb1 hb hp hk' i1 i2 h1 h2 op g hl el
    have ww := rz_m_w (j := 2) mp (by rw [decide_eq_true_iff]) (by omega) (by omega)
    have es := a6 p k hp hk'
    have ih' := ih (k + 1) (by omega)
    rw [rz_fold] at ih'
    dsimp only at ih'
    rw [e_188_76, a1, if_pos (nI_lt (a := k) (b := np) hk' (by omega)), rz_m_on, ra_kI]
    by_cases o : rz_on τ k = true
    · rw [o, Bool.true_and, Bool.true_and] at es
      rw [if_pos o, if_neg (by decide), if_pos (rz_gd (N := 16) (by omega) (by omega)), nI_clamp (by omega), rz_m_bit, ra_kI]
      by_cases z : rz_bit (τ.1 94 p) k = true
      · rw [if_pos z, if_neg (by decide), show (2 : Int32) = nI 2 from rfl, ww, ra_kI, tp (h1 k hk' o) h2 (by omega) (by omega), ra_kJ, ww, ra_kI, rz_wL w2, rz_L_mul, rz_L_add, rz_L_add]
        obtain ⟨u, v, e⟩ := st o ((rz_fold E b (rz_gap E b r1 r2 p) r1 p k).1 + rz_w E p 2 * (r1 k + rz_gap E b r1 r2 p)) ((rz_fold E b (rz_gap E b r1 r2 p) r1 p k).2 + rz_w E p 2) o9 o10
        rw [e, ← ih' u v, es.1, if_pos z]
      · rw [if_neg z, if_pos rfl]
        obtain ⟨u, v, e⟩ := st o (rz_fold E b (rz_gap E b r1 r2 p) r1 p k).1 (rz_fold E b (rz_gap E b r1 r2 p) r1 p k).2 o9 o10
        rw [e, ← ih' u v, es.1, if_neg z, Int.zero_mul, Int.add_zero, Int.add_zero]
    · rw [Bool.eq_false_iff.mpr o, Bool.false_and, Bool.false_and] at es
      rw [if_neg o, if_pos rfl, nI_1, ← ih' o9 o10, es.1, es.2, if_neg (by decide), if_neg (by decide), Int.zero_mul, Int.zero_mul, Int.add_zero, Int.add_zero, Int.add_zero, Int.add_zero]
/-- the entry before what is added -/
noncomputable def rz_pre (E : rz_En) (np b p : Nat) : Int := if b = 0 then rz_bg E 0 + rz_hb E p else rz_mid E np b (rz_row E np (b - 1)).1 (rz_row E np (b - 1)).2 p
theorem rz_e_pre (E : rz_En) (np b p : Nat) : rz_e E np b p = rz_cl (rz_pre E np b p + rz_ex E b p) := by
  unfold rz_e rz_pre
  cases b with
  | zero => rfl
  | succ b => rfl
theorem rz_row_in (E : rz_En) (np b p : Nat) : (-1000000000 ≤ (rz_row E np b).1 p ∧ (rz_row E np b).1 p ≤ 1000000000) ∧ (-1000000000 ≤ (rz_row E np b).2 p ∧ (rz_row E np b).2 p ≤ 1000000000) := by
  refine ⟨rz_e_in E np b p, ?_⟩
  cases b with
  | zero => show (-1000000000 : Int) ≤ 0 ∧ (0 : Int) ≤ 1000000000; omega
  | succ b => exact rz_e_in E np b p
set_option maxHeartbeats 2000000 in
theorem rz_m_entry {E : rz_En} {np nb b p : Nat} {τ : ra_S} (h : rz_MA E np nb τ) (ok : rz_Eok E np nb) (hb : b < nb) (hp : p < np) (op : rz_on τ p = true) (ht : ∀ b', b' < b → ∀ q, q < np → rz_on τ q = true → τ.1 102 (8 * b' + q) = Int32.ofInt (rz_e E np b' q)) : ra_C 188 [.ref 86, .int (nI p), .int (nI b)] τ = ra_J (rz_L (rz_pre E np b p)) τ := by
  obtain ⟨a1, a2, a3, a4, a5, a6, len, a7, a8, a9⟩ := id h
  have mp := a5 p hp
  have hh := ok.2.1 p hp
  have hbb := ok.2.2.1 b (by omega)
  have hal : decide (¬ τ.1 86 39 < 0) = true ↔ ¬ τ.1 86 39 < 0 := by rw [decide_eq_true_iff]
  have ow := rz_m_own (b := b) mp (by omega) a7 (by omega) a4 (Nat.le_trans (rz_sum_mono len (by omega)) a9)
  rw [← a8 b (by omega)] at ow
  have w0 := rz_m_w (j := 0) mp hal (by omega) (by omega)
  have w1 := rz_m_w (j := 1) mp hal (by omega) (by omega)
  rw [e_188]
  unfold rz_pre
  by_cases z : b = 0
  · subst z
    rw [if_pos (show nI 0 = (0 : Int32) from rfl), if_pos rfl, show (0 : Int32) = nI 0 from rfl, ow, ra_kI, rz_oL (by omega)]
  · obtain ⟨l, hl, el, -⟩ := id mp
    have i1 := fun q => (rz_row_in E np (b - 1) q).1
    have i2 := fun q => (rz_row_in E np (b - 1) q).2
    have h1 : ∀ q, q < np → rz_on τ q = true → τ.1 102 (8 * (b - 1) + q) = Int32.ofInt ((rz_row E np (b - 1)).1 q) := fun q g1 g2 => ht (b - 1) (by omega) q g1 g2
    have h2 : b ≠ 1 → τ.1 102 (8 * (b - 2) + p) = Int32.ofInt ((rz_row E np (b - 1)).2 p) := fun y => by
      rw [ht (b - 2) (by omega) p hp op, show b - 1 = b - 2 + 1 by omega, rz_row2]; rfl
    have tp := rz_m_tempo (E := E) (np := np) (q := p) (p := p) a7 (by omega) hb a4 (Nat.le_trans (rz_sum_mono len (by omega)) a9) (a8 1 (by omega)) i1 i2 (h1 p hp op) (h1 p hp op) h2 (by omega) (by omega)
    rw [if_neg (fun y => z (by have := congrArg Int32.toInt y; rw [nI_toInt (by omega)] at this; exact Int.ofNat.inj this)), if_neg z, show (5 : Int32) * nI p = nI (5 * p) from pk_mul 5 p, if_pos (rz_gd (N := 80) (by omega) (by omega)), show (0 : Int32) = nI 0 from rfl, show (1 : Int32) = nI 1 from rfl, w0, ra_kI, ow, ra_kI, w1, ra_kI, tp, ra_kJ, w0, ra_kI, w1, ra_kI, nI_clamp (by omega), el, show (6 : Int32) * nI l = nI (6 * l) from pk_mul 6 l, rz_wL (ok.1 p hp 0 (by omega)), rz_wL (ok.1 p hp 1 (by omega)), rz_oL (by omega), rz_L_mul, rz_L_mul, rz_L_add, ← Int32.ofInt_add, rz_oL (by have := ok.1 p hp 0 (by omega); have := ok.1 p hp 1 (by omega); omega)]
    exact rz_m_loop h ok (by omega) hb hp i1 i2 h1 h2 op hl el np 0 (by omega) none none
