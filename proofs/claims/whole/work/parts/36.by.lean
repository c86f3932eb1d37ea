-- ===== who goes by whom =====
theorem rz_orN32 (a b : Nat) : nI a ||| nI b = nI (a ||| b) := by
  apply Int32.toBitVec_inj.mp
  rw [Int32.toBitVec_or]
  exact BitVec.ofNat_or.symm
theorem rz_bitN : ∀ (n : Fin 256) (q : Fin 8), rz_bit (nI n.val) q.val = n.val.testBit q.val := by decide +kernel
theorem rz_bitn {n q : Nat} (h : n < 256) (hq : q < 8) : rz_bit (nI n) q = n.testBit q := rz_bitN ⟨n, h⟩ ⟨q, hq⟩
/-- one round over k players -/
def rz_bf (L : Nat → Nat) (x : Nat) : Nat → Nat
  | 0 => x
  | q + 1 => if (rz_bf L x q).testBit q = true then rz_bf L x q ||| L q else rz_bf L x q
def rz_it (L : Nat → Nat) (np x : Nat) : Nat → Nat
  | 0 => x
  | r + 1 => rz_bf L (rz_it L np x r) np
def rz_ct (x : Nat) : Nat → Nat
  | 0 => 0
  | k + 1 => rz_ct x k + (if x.testBit k = true then 1 else 0)
theorem rz_bf_lt {L : Nat → Nat} {np : Nat} (hL : ∀ q, q < np → L q < 2 ^ np) {x : Nat} (hx : x < 2 ^ np) : ∀ k, k ≤ np → rz_bf L x k < 2 ^ np
  | 0, _ => hx
  | k + 1, h => by
    have i := rz_bf_lt hL hx k (by omega)
    rw [rz_bf]
    split
    · exact Nat.or_lt_two_pow i (hL k (by omega))
    · exact i
theorem rz_bf_sub (L : Nat → Nat) (x i : Nat) (h : x.testBit i = true) : ∀ k, (rz_bf L x k).testBit i = true
  | 0 => h
  | k + 1 => by
    have j := rz_bf_sub L x i h k
    rw [rz_bf]
    split
    · rw [Nat.testBit_or, j]; rfl
    · exact j
theorem rz_it_lt {L : Nat → Nat} {np : Nat} (hL : ∀ q, q < np → L q < 2 ^ np) {x : Nat} (hx : x < 2 ^ np) : ∀ r, rz_it L np x r < 2 ^ np
  | 0 => hx
  | r + 1 => rz_bf_lt hL (rz_it_lt hL hx r) np (Nat.le_refl _)
theorem rz_ct_le (x : Nat) : ∀ k, rz_ct x k ≤ k
  | 0 => Nat.le_refl _
  | k + 1 => by
    have := rz_ct_le x k
    rw [rz_ct]
    split <;> omega
theorem rz_ct_mono {x y : Nat} (h : ∀ i, x.testBit i = true → y.testBit i = true) : ∀ k, rz_ct x k ≤ rz_ct y k
  | 0 => Nat.le_refl _
  | k + 1 => by
    have := rz_ct_mono h k
    rw [rz_ct, rz_ct]
    by_cases z : x.testBit k = true
    · rw [if_pos z, if_pos (h k z)]; omega
    · rw [if_neg z]; omega
theorem rz_ct_lt {x y i : Nat} (h : ∀ i, x.testBit i = true → y.testBit i = true) (hx : x.testBit i = false) (hy : y.testBit i = true) : ∀ k, i < k → rz_ct x k < rz_ct y k
  | 0, hk => by omega
  | k + 1, hk => by
    rw [rz_ct, rz_ct]
    by_cases z : i = k
    · subst z
      have := rz_ct_mono h i
      rw [if_neg (by rw [hx]; decide), if_pos hy]; omega
    · have := rz_ct_lt h hx hy k (by omega)
      by_cases w : x.testBit k = true
      · rw [if_pos w, if_pos (h k w)]; omega
      · rw [if_neg w]; omega
theorem rz_grow {L : Nat → Nat} {np x : Nat} (hL : ∀ q, q < np → L q < 2 ^ np) (hx : x < 2 ^ np) (hne : rz_bf L x np ≠ x) : rz_ct x np < rz_ct (rz_bf L x np) np := by
  have hs := fun i h => rz_bf_sub L x i h np
  have lt := rz_bf_lt hL hx np (Nat.le_refl _)
  have : ∃ i, x.testBit i ≠ (rz_bf L x np).testBit i := by
    by_cases q : ∃ i, x.testBit i ≠ (rz_bf L x np).testBit i
    · exact q
    · exfalso
      apply hne
      apply Nat.eq_of_testBit_eq
      intro i
      by_cases w : x.testBit i = (rz_bf L x np).testBit i
      · exact w.symm
      · exact absurd ⟨i, w⟩ q
  obtain ⟨i, hi⟩ := this
  have xi : x.testBit i = false := by
    cases z : x.testBit i with
    | false => rfl
    | true => rw [z, hs i z] at hi; exact absurd rfl hi
  have yi : (rz_bf L x np).testBit i = true := by
    cases z : (rz_bf L x np).testBit i with
    | true => rfl
    | false => rw [xi, z] at hi; exact absurd rfl hi
  have hk : i < np := by
    by_cases w : i < np
    · exact w
    · exfalso
      have := Nat.testBit_lt_two_pow (Nat.lt_of_lt_of_le lt (Nat.pow_le_pow_right (by decide) (show np ≤ i by omega)))
      rw [this] at yi
      cases yi
  exact rz_ct_lt hs xi yi np hk
theorem rz_it_fix {L : Nat → Nat} {np x : Nat} (hL : ∀ q, q < np → L q < 2 ^ np) (hx : x < 2 ^ np) : rz_bf L (rz_it L np x np) np = rz_it L np x np := by
  by_cases x0 : x = 0
  · subst x0
    have z : ∀ k, rz_bf L 0 k = 0 := by
      intro k
      induction k with
      | zero => rfl
      | succ k ih => rw [rz_bf, ih, if_neg (by rw [Nat.zero_testBit]; decide)]
    have zi : ∀ r, rz_it L np 0 r = 0 := by
      intro r
      induction r with
      | zero => rfl
      | succ r ih => rw [rz_it, ih, z]
    rw [zi, z]
  · have c1 : 1 ≤ rz_ct x np := by
      obtain ⟨i, hi⟩ := Nat.exists_testBit_of_ne_zero x0
      have hk : i < np := by
        by_cases w : i < np
        · exact w
        · exfalso
          have := Nat.testBit_lt_two_pow (Nat.lt_of_lt_of_le hx (Nat.pow_le_pow_right (by decide) (show np ≤ i by omega)))
          rw [this] at hi
          cases hi
      have := rz_ct_lt (x := 0) (y := x) (i := i) (fun j h => by rw [Nat.zero_testBit] at h; cases h) (Nat.zero_testBit i) hi np hk
      omega
    have key : ∀ r, rz_bf L (rz_it L np x r) np = rz_it L np x r ∨ r + 1 ≤ rz_ct (rz_it L np x r) np := by
      intro r
      induction r with
      | zero => exact Or.inr c1
      | succ r ih =>
        by_cases w : rz_bf L (rz_it L np x r) np = rz_it L np x r
        · left
          rw [rz_it, w, w]
        · right
          rcases ih with ih | ih
          · exact absurd ih w
          · have := rz_grow hL (rz_it_lt hL hx r) w
            rw [rz_it]; omega
    rcases key np with q | q
    · exact q
    · have := rz_ct_le (rz_it L np x np) np
      omega
theorem rz_it_8 {L : Nat → Nat} {np x : Nat} (hL : ∀ q, q < np → L q < 2 ^ np) (hx : x < 2 ^ np) : ∀ d, rz_it L np x (np + d) = rz_it L np x np
  | 0 => rfl
  | d + 1 => by
    show rz_bf L (rz_it L np x (np + d)) np = _
    rw [rz_it_8 hL hx d, rz_it_fix hL hx]
/-- links of a player -/
noncomputable def rz_lk (σ : ra_S) (len : Nat → Nat) (np nw p : Nat) : Int32 := (if 0 < rz_w (rz_EP σ len np nw) p 2 then σ.1 94 p else 0) ||| (if 0 < rz_w (rz_EP σ len np nw) p 3 then σ.1 95 p else 0)
noncomputable def rz_lkn (σ : ra_S) (len : Nat → Nat) (np nw p : Nat) : Nat := (rz_lk σ len np nw p).toNatClampNeg
theorem rz_p2 {np : Nat} (h : np ≤ 8) : 2 ^ np ≤ 256 := Nat.pow_le_pow_right (n := 2) (by decide) h
theorem rz_lk_n {np nb nl nw : Nat} {len : Nat → Nat} {σ : ra_S} (hB : rz_base np nb nl nw len σ) {p : Nat} (hp : p < np) : rz_lk σ len np nw p = nI (rz_lkn σ len np nw p) ∧ rz_lkn σ len np nw p < 2 ^ np := by
  obtain ⟨-, -, -, -, ⟨b, ⟨b1, -⟩, -, b3⟩, ⟨d, ⟨d1, -⟩, -, d3⟩⟩ := hB.2.2.1 p hp
  have p2 := rz_p2 hB.1.1.2.2
  have e1 : ∃ u, u < 2 ^ np ∧ (if 0 < rz_w (rz_EP σ len np nw) p 2 then σ.1 94 p else 0) = nI u := by
    by_cases z : 0 < rz_w (rz_EP σ len np nw) p 2
    · exact ⟨b, b1, by rw [if_pos z, b3]⟩
    · exact ⟨0, Nat.two_pow_pos _, by rw [if_neg z]; rfl⟩
  have e2 : ∃ u, u < 2 ^ np ∧ (if 0 < rz_w (rz_EP σ len np nw) p 3 then σ.1 95 p else 0) = nI u := by
    by_cases z : 0 < rz_w (rz_EP σ len np nw) p 3
    · exact ⟨d, d1, by rw [if_pos z, d3]⟩
    · exact ⟨0, Nat.two_pow_pos _, by rw [if_neg z]; rfl⟩
  obtain ⟨u, u1, u2⟩ := e1
  obtain ⟨v, v1, v2⟩ := e2
  have o := Nat.or_lt_two_pow u1 v1
  have e : rz_lk σ len np nw p = nI (u ||| v) := by
    unfold rz_lk
    rw [u2, v2, rz_orN32]
  unfold rz_lkn
  rw [e, nI_clamp (by omega)]
  exact ⟨rfl, o⟩
theorem rz_pos0 {w : Int} (h : 0 ≤ w ∧ w ≤ 9) : (0 : Int32) < Int32.ofInt w ↔ 0 < w := rz_oLt (a := 0) (by omega) (by omega) (by omega) (by omega)
theorem rz_by {σ : ra_S} (h : rz_R σ) (a : Int32) : rz_OI 111 219 [.int a] σ := by
  obtain ⟨np, nb, nl, nw, len, hB⟩ := rz_base_of h
  have f0 := rz_ft.rf σ
  have f0' := f0.u2 (x := 0)
  obtain ⟨⟨c1, c2, c3⟩, ⟨c4, c5, c6⟩, ⟨c7, -, c9⟩, -⟩ := id hB.1
  have p2 := rz_p2 c3
  by_cases v1 : 0 ≤ a.toInt ∧ a.toInt < np
  · obtain ⟨υ, e, f1, fit, g1, g2, g3, g4⟩ := rz_fillF hB f0
    obtain ⟨υ1, e1, w1, w2, w3⟩ := rz_c_weighUp (σ := υ) (nl := nl) (by rw [f1.1 11 (by omega)]; exact c7) c9
    have f2 : rz_ft σ υ1 := rz_ft.of f1 (fun c hc => w1 c (by omega) (by omega) (by omega))
    have ok : rz_Eok (rz_EP σ len np nw) np nb := rz_Eok_mk hB (fun p hp => (fit p hp).2.1) (fun p hp => ⟨(fit p hp).2.2.2.2.1, (fit p hp).2.2.2.2.2.1⟩) (fun b p _ _ => rz_exf_in hB.2.2.2.2.1.1 (by omega) (by omega) b p)
    have cw : ∀ p j, p < np → j < 4 → υ1.1 69 (4 * p + j) = Int32.ofInt (rz_w (rz_EP σ len np nw) p j) := fun p j hp hj => by
      obtain ⟨k1, k2, k3, k4, k5, k6, k7, k8⟩ := fit p hp
      rw [(w3 p (by omega)).1 j hj]
      show _ = Int32.ofInt (if rz_bit (σ.1 101 p) j = true then 0 else if j = 0 ∧ false = true then 0 else (σ.1 91 (6 * rz_lw0 σ p + j)).toInt)
      unfold rz_wv rz_lw
      rw [(g3 p hp).1, k1, if_pos (show 0 ≤ (nI (rz_lw0 σ p)).toInt ∧ (nI (rz_lw0 σ p)).toInt < nl from rz_gd (by omega) (by omega)), nI_clamp (by omega), f1.1 13 (by omega), ((hB.2.1 (rz_lw0 σ p) k2).2.1 j hj).1]
      by_cases z : rz_bit (σ.1 101 p) j = true
      · rw [if_pos z, if_pos z]; rfl
      · rw [if_neg z, if_neg z, if_neg (fun y => by cases y.2), rz_ofI]
    have lc : ∀ p, p < np → ra_C 6 [.ref 62, .int (nI p)] υ1 = ra_I (nI (rz_lkn σ len np nw p)) υ1 := fun p hp => by
      have s67 : υ1.1 67 p = σ.1 94 p := by rw [w1 67 (by decide) (by decide) (by decide)]; exact (g3 p hp).2.1
      have s68 : υ1.1 68 p = σ.1 95 p := by rw [w1 68 (by decide) (by decide) (by decide)]; exact (g3 p hp).2.2
      rw [← (rz_lk_n hB hp).1, e_6, e_9, if_neg (nI_pos (by omega)), show (8 : Int32) = nI 8 from rfl, rz_il (by omega) (by omega), ra_kI, if_neg (by decide), show (2 : Int32) = nI 2 from rfl, rz_c_cw (by omega) (by omega), ra_kI, cw p 2 hp (by omega), rz_ig (by omega) (by omega), nI_clamp (by omega), s67]
      have fin : ∀ t : Int32, ra_D (ra_lay, none, 99999, ra_m6) 28 [some (.ref 62), some (.int (nI p)), none, none] [.int t] υ1 = ra_I (t ||| (if 0 < rz_w (rz_EP σ len np nw) p 3 then σ.1 95 p else 0)) υ1 := fun t => by
        rw [e_6_28, show (3 : Int32) = nI 3 from rfl, rz_c_cw (by omega) (by omega), ra_kI, cw p 3 hp (by omega), rz_ig (by omega) (by omega), nI_clamp (by omega), s68]
        by_cases z : 0 < rz_w (rz_EP σ len np nw) p 3
        · rw [if_pos z, if_pos ((rz_pos0 (ok.1 p hp 3 (by omega))).mpr z)]
        · rw [if_neg z, if_neg (fun y => z ((rz_pos0 (ok.1 p hp 3 (by omega))).mp y))]
      unfold rz_lk
      by_cases z : 0 < rz_w (rz_EP σ len np nw) p 2
      · rw [if_pos z, if_pos ((rz_pos0 (ok.1 p hp 2 (by omega))).mpr z), fin]
      · rw [if_neg z, if_neg (fun y => z ((rz_pos0 (ok.1 p hp 2 (by omega))).mp y)), fin]
    have f3 : rz_ft σ (ra_ui υ1 86 2 0) := f2.u2
    have MA := rz_MA_mk (ex := rz_exf σ np nw 0 0 0 0 0) hB (rz_fitM_ft hB f3)
    have mw : ∀ p j, p < np → j < 4 → ra_C 185 [.ref 86, .int (nI p), .int (nI j)] (ra_ui υ1 86 2 0) = ra_I (Int32.ofInt (rz_w (rz_EP σ len np nw) p j)) (ra_ui υ1 86 2 0) := fun p j hp hj => rz_m_w (MA.2.2.2.2.1 p hp) (by rw [decide_eq_true_iff]) (by omega) hj
    have lm : ∀ p, p < np → ra_C 218 [.ref 86, .int (nI p)] (ra_ui υ1 86 2 0) = ra_I (nI (rz_lkn σ len np nw p)) (ra_ui υ1 86 2 0) := fun p hp => by
      have s94 : (ra_ui υ1 86 2 0).1 94 p = σ.1 94 p := by rw [f3.1 94 (by omega)]
      have s95 : (ra_ui υ1 86 2 0).1 95 p = σ.1 95 p := by rw [f3.1 95 (by omega)]
      rw [← (rz_lk_n hB hp).1, e_218, show (2 : Int32) = nI 2 from rfl, mw p 2 hp (by omega), ra_kI, rz_ig (by omega) (by omega), nI_clamp (by omega), s94]
      have fin : ∀ t : Int32, ra_D (ra_lay, none, 99999, ra_m218) 19 [some (.ref 86), some (.int (nI p))] [.int t] (ra_ui υ1 86 2 0) = ra_I (t ||| (if 0 < rz_w (rz_EP σ len np nw) p 3 then σ.1 95 p else 0)) (ra_ui υ1 86 2 0) := fun t => by
        rw [e_218_19, show (3 : Int32) = nI 3 from rfl, mw p 3 hp (by omega), ra_kI, rz_ig (by omega) (by omega), nI_clamp (by omega), s95]
        by_cases z : 0 < rz_w (rz_EP σ len np nw) p 3
        · rw [if_pos z, if_pos ((rz_pos0 (ok.1 p hp 3 (by omega))).mpr z)]
        · rw [if_neg z, if_neg (fun y => z ((rz_pos0 (ok.1 p hp 3 (by omega))).mp y))]
      unfold rz_lk
      by_cases z : 0 < rz_w (rz_EP σ len np nw) p 2
      · rw [if_pos z, if_pos ((rz_pos0 (ok.1 p hp 2 (by omega))).mpr z), fin]
      · rw [if_neg z, if_neg (fun y => z ((rz_pos0 (ok.1 p hp 2 (by omega))).mp y)), fin]
    obtain ⟨p, hp, rfl⟩ := rz_nat (by omega) v1
    obtain ⟨L, hL0⟩ : ∃ L : Nat → Nat, L = rz_lkn σ len np nw := ⟨_, rfl⟩
    have hL : ∀ q, q < np → L q < 2 ^ np := fun q hq => by rw [hL0]; exact (rz_lk_n hB hq).2
    rw [← hL0] at lc lm
    have hx := hL p hp
    have u16 : υ1.1 16 0 = nI np := by rw [f2.1 16 (by omega)]; exact c1
    have u14 : (ra_ui υ1 86 2 0).1 86 14 = nI np := by rw [f3.2 14 (by decide)]; exact c2
    have ic : ∀ x, x < 2 ^ np → ∀ (d k : Nat), k + d = np → ∀ (o1 : Option Value) (v3 : Int32), ra_D (ra_lay, none, 99999, ra_m111) 56 [some (.ref 0), o1, some (.int (nI (rz_bf L x k))), some (.int v3), some (.int (nI k))] [] υ1 = ra_D (ra_lay, none, 99999, ra_m111) 47 [some (.ref 0), o1, some (.int (nI (rz_bf L x np))), some (.int (v3 + 1)), some (.int (nI np))] [] υ1 := by
      intro x hx d
      induction d with
      | zero => intro k hk o1 v3; have : k = np := by omega
                subst this; rw [e_111_56, u16, rz_inl (by omega) (by omega)]
      | succ d ih =>
        intro k hk o1 v3
        have lt := rz_bf_lt hL hx k (by omega)
        have i := ih (k + 1) (by omega) o1 v3
        have bn := rz_bitn (n := rz_bf L x k) (q := k) (by omega) (by omega)
        rw [rz_bf] at i
        rw [e_111_56, u16, rz_il (by omega) (by omega), nI_1]
        by_cases z : (rz_bf L x k).testBit k = true
        · rw [z] at bn
          rw [if_pos z] at i
          rw [if_pos (of_decide_eq_true bn), lc k (by omega), ra_kI, rz_orN32]
          exact i
        · rw [if_neg z] at i
          rw [if_neg (fun y => z (by rw [← bn]; exact decide_eq_true y))]
          exact i
    have im : ∀ x, x < 2 ^ np → ∀ (d k : Nat), k + d = np → ∀ (o1 : Option Value) (v3 : Int32), ra_D (ra_lay, none, 99999, ra_m219) 34 [some (.ref 86), o1, some (.int (nI (rz_bf L x k))), some (.int v3), some (.int (nI k))] [] (ra_ui υ1 86 2 0) = ra_D (ra_lay, none, 99999, ra_m219) 23 [some (.ref 86), o1, some (.int (nI (rz_bf L x np))), some (.int (v3 + 1)), some (.int (nI np))] [] (ra_ui υ1 86 2 0) := by
      intro x hx d
      induction d with
      | zero => intro k hk o1 v3; have : k = np := by omega
                subst this; rw [e_219_34, u14, rz_inl (by omega) (by omega)]
      | succ d ih =>
        intro k hk o1 v3
        have lt := rz_bf_lt hL hx k (by omega)
        have i := ih (k + 1) (by omega) o1 v3
        have bn := rz_bitn (n := rz_bf L x k) (q := k) (by omega) (by omega)
        rw [rz_bf] at i
        rw [e_219_34, u14, rz_il (by omega) (by omega), rz_m_bit, ra_kI, nI_1, Int32.or_zero]
        by_cases z : (rz_bf L x k).testBit k = true
        · rw [z] at bn
          rw [if_pos z] at i
          rw [if_pos bn, if_neg (by decide), lm k (by omega), ra_kI, rz_orN32]
          exact i
        · rw [if_neg z] at i
          rw [if_neg (show ¬ rz_bit (nI (rz_bf L x k)) k = true from fun y => z (by rw [← bn]; exact y)), if_pos rfl]
          exact i
    have oc : ∀ d r, r + d = 8 → ∀ o1 o4 : Option Value, ra_D (ra_lay, none, 99999, ra_m111) 47 [some (.ref 0), o1, some (.int (nI (rz_it L np (L p) r))), some (.int (nI r)), o4] [] υ1 = ra_I (nI (rz_it L np (L p) 8)) υ1 := by
      intro d
      induction d with
      | zero => intro r hr o1 o4; have : r = 8 := by omega
                subst this; rw [e_111_47, if_neg (by decide)]
      | succ d ih =>
        intro r hr o1 o4
        have i := ic (rz_it L np (L p) r) (rz_it_lt hL hx r) np 0 (by omega) o1 (nI r)
        rw [show rz_bf L (rz_it L np (L p) r) 0 = rz_it L np (L p) r from rfl, nI_1] at i
        rw [e_111_47, show (8 : Int32) = nI 8 from rfl, rz_il (by omega) (by omega), show (0 : Int32) = nI 0 from rfl, i]
        exact ih (r + 1) (by omega) o1 _
    have om : ∀ d r, r + d = np → ∀ o1 o4 : Option Value, ra_D (ra_lay, none, 99999, ra_m219) 23 [some (.ref 86), o1, some (.int (nI (rz_it L np (L p) r))), some (.int (nI r)), o4] [] (ra_ui υ1 86 2 0) = ra_I (nI (rz_it L np (L p) np)) (ra_ui υ1 86 2 0) := by
      intro d
      induction d with
      | zero => intro r hr o1 o4; have : r = np := by omega
                subst this; rw [e_219_23, u14, rz_inl (by omega) (by omega)]
      | succ d ih =>
        intro r hr o1 o4
        have i := im (rz_it L np (L p) r) (rz_it_lt hL hx r) np 0 (by omega) o1 (nI r)
        rw [show rz_bf L (rz_it L np (L p) r) 0 = rz_it L np (L p) r from rfl, nI_1] at i
        rw [e_219_23, u14, rz_il (by omega) (by omega)]
        refine Eq.trans i ?_
        exact ih (r + 1) (by omega) o1 _
    have e8 := rz_it_8 hL hx (8 - np)
    rw [show np + (8 - np) = 8 by omega] at e8
    refine ⟨nI (rz_it L np (L p) np), υ1, ra_ui υ1 86 2 0, ?_, ?_, rz_R_ft f3 h⟩
    · rw [e_111, rz_kPc hB f0, ra_kI, rz_t v1, e, ra_kV, e1, ra_kV, lc p hp, ra_kI, ← e8]
      exact oc 8 0 (by omega) _ _
    · rw [e_219, rz_kPm hB f3, ra_kI, rz_t v1, lm p hp, ra_kI]
      exact om np 0 (by omega) _ _
  · refine ⟨-1, σ, ra_ui σ 86 2 0, ?_, ?_, rz_R_ft f0' h⟩
    · rw [e_111, rz_kPc hB f0, ra_kI, rz_f v1]
    · rw [e_219, rz_kPm hB f0', ra_kI, rz_f v1]
