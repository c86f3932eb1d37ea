-- ===== next, on both sides =====
noncomputable def rz_Rk (σ : ra_S) (len : Nat → Nat) (np nw p k l n : Nat) : Int32 := Int32.ofInt (rz_e (rz_EL σ len np nw p l (rz_T1 (σ.1 101) p k)) np n p)
def rz_gf (P : Nat → Bool) (R : Nat → Nat → Int32) (nb l : Nat) : Nat := if P l = true then rz_dc (fun o => P o && rz_al R l o nb 0) (l + 1) else 0
theorem rz_c_keep {e : Nat → Nat → Int} {bg : Nat → Int} {np nb : Nat} {τ : ra_S} (t : rz_TC e bg np nb τ) {p l nl : Nat} (hp : p < np) (h11 : τ.1 11 0 = nI nl) (h6 : nl ≤ 6) (hl : l < nl) : ∃ υ : ra_S, ra_C 120 [.ref 0, .int (nI p), .int (nI l)] τ = ra_V υ ∧ (∀ c, c ≠ 85 → υ.1 c = τ.1 c) ∧ (∀ b, b < nb → υ.1 85 (40 * l + b) = Int32.ofInt (e b p)) ∧ ∀ i, ¬ (40 * l ≤ i ∧ i < 40 * l + nb) → υ.1 85 i = τ.1 85 i := by
  obtain ⟨t1, t2, t3, t4, t5, t6, t7⟩ := id t
  have loop : ∀ d k, k + d = nb → ∀ υ : ra_S, (∀ c, c ≠ 85 → υ.1 c = τ.1 c) → (∀ b, b < k → υ.1 85 (40 * l + b) = Int32.ofInt (e b p)) → (∀ i, ¬ (40 * l ≤ i ∧ i < 40 * l + nb) → υ.1 85 i = τ.1 85 i) → ∃ υ' : ra_S, ra_D (ra_lay, none, 99999, ra_m120) 17 [some (.ref 0), some (.int (nI p)), some (.int (nI l)), some (.int (nI k))] [] υ = ra_V υ' ∧ (∀ c, c ≠ 85 → υ'.1 c = τ.1 c) ∧ (∀ b, b < nb → υ'.1 85 (40 * l + b) = Int32.ofInt (e b p)) ∧ ∀ i, ¬ (40 * l ≤ i ∧ i < 40 * l + nb) → υ'.1 85 i = τ.1 85 i := by
    intro d
    induction d with
    | zero =>
      intro k hk υ g1 g2 g3
      have : k = nb := by omega
      subst this
      rw [e_120_17, g1 10 (by decide), t3, rz_inl (by omega) (by omega)]
      exact ⟨υ, rfl, g1, g2, g3⟩
    | succ d ih =>
      intro k hk υ g1 g2 g3
      rw [e_120_17, g1 10 (by decide), t3, rz_il (by omega) (by omega), if_pos (show nI k < (40 : Int32) from nI_lt (a := k) (b := 40) (by omega) (by omega)), rz_c_at (by omega) (by omega), ra_kI, show (40 : Int32) = nI 40 from rfl, pk_mul, nI_add, rz_ig (by omega) (by omega), nI_clamp (by omega), g1 73 (by decide), (t7 k p (by omega) hp).1, nI_1]
      refine ih (k + 1) (by omega) (ra_ui υ 85 (l * 40 + k) (Int32.ofInt (e k p))) (fun c hc => by rw [ra_ui_1 c hc]; exact g1 c hc) (fun b hb => ?_) (fun i hi => ?_)
      · rw [ra_ui_get]
        by_cases z : b = k
        · rw [if_pos ⟨rfl, by omega⟩, z]
        · rw [if_neg (fun y => by omega)]; exact g2 b (by omega)
      · rw [ra_ui_get, if_neg (fun y => by omega)]; exact g3 i hi
  obtain ⟨υ, e1, g⟩ := loop nb 0 (by omega) τ (fun _ _ => rfl) (fun b hb => by omega) (fun _ _ => rfl)
  have vl : 0 ≤ (nI l).toInt ∧ (nI l).toInt < (nl : Int) := rz_gd (by omega) (by omega)
  exact ⟨υ, by rw [e_120, rz_c_has h11 h6, ra_kI, rz_t vl]; exact e1, g⟩
theorem rz_c_al {nb nl : Nat} {τ : ra_S} (t3 : τ.1 10 5 = nI nb) (t4 : nb ≤ 40) (h11 : τ.1 11 0 = nI nl) (h6 : nl ≤ 6) {R : Nat → Nat → Int32} {a b : Nat} (ha : a < nl) (hb : b < nl) (ra : ∀ n, n < nb → τ.1 85 (40 * a + n) = R a n) (rb : ∀ n, n < nb → τ.1 85 (40 * b + n) = R b n) : ra_C 122 [.ref 0, .int (nI a), .int (nI b)] τ = ra_I (if rz_al R a b nb 0 = true then 1 else 0) τ := by
  have loop : ∀ d k, k + d = nb → ra_D (ra_lay, none, 99999, ra_m122) 32 [some (.ref 0), some (.int (nI a)), some (.int (nI b)), some (.int (nI k))] [] τ = ra_I (if rz_al R a b d k = true then 1 else 0) τ := by
    intro d
    induction d with
    | zero => intro k hk; rw [e_122_32, t3, rz_inl (by omega) (by omega)]; rfl
    | succ d ih =>
      intro k hk
      rw [e_122_32, t3, rz_il (by omega) (by omega), if_pos (show nI k < (40 : Int32) from nI_lt (a := k) (b := 40) (by omega) (by omega)), show (40 : Int32) = nI 40 from rfl, pk_mul, pk_mul, nI_add, nI_add, rz_ig (by omega) (by omega), rz_ig (by omega) (by omega), nI_clamp (by omega), nI_clamp (by omega), Nat.mul_comm a 40, Nat.mul_comm b 40, ra k (by omega), rb k (by omega), nI_1, rz_al]
      by_cases z : R a k = R b k
      · rw [if_pos z, if_pos z]; exact ih (k + 1) (by omega)
      · rw [if_neg z, if_neg z]; rfl
  have va : 0 ≤ (nI a).toInt ∧ (nI a).toInt < (nl : Int) := rz_gd (by omega) (by omega)
  have vb : 0 ≤ (nI b).toInt ∧ (nI b).toInt < (nl : Int) := rz_gd (by omega) (by omega)
  rw [e_122, rz_c_has h11 h6, ra_kI, rz_t va, rz_c_has h11 h6, ra_kI, rz_t vb]
  exact loop nb 0 (by omega)
theorem rz_c_alike {nb : Nat} {τ : ra_S} (t3 : τ.1 10 5 = nI nb) (t4 : nb ≤ 40) {R : Nat → Nat → Int32} {P : Nat → Bool} {nl l : Nat} (t11 : τ.1 11 0 = nI nl) (hnl : nl ≤ 6) (hl : l < nl) (hP : P l = true) (hr : ∀ o, o ≤ l → P o = true → ∀ n, n < nb → τ.1 85 (40 * o + n) = R o n) : ra_C 121 [.ref 0, .int (nI (rz_pn P nl)), .int (nI l)] τ = ra_I (nI (rz_dc (fun o => P o && rz_al R l o nb 0) (l + 1))) τ := by
  have loop : ∀ d k, k + d = l + 1 → ra_D (ra_lay, none, 99999, ra_m121) 5 [some (.ref 0), some (.int (nI (rz_pn P nl))), some (.int (nI l)), some (.int (nI (rz_dc (fun o => P o && rz_al R l o nb 0) k))), some (.int (nI k))] [] τ = ra_I (nI (rz_dc (fun o => P o && rz_al R l o nb 0) (l + 1))) τ := by
    intro d
    induction d with
    | zero => intro k hk; have : k = l + 1 := by omega
              subst this; rw [e_121_5, rz_il (by omega) (by omega)]
    | succ d ih =>
      intro k hk
      have nx := ih (k + 1) (by omega)
      have bp := rz_bit_pn (P := P) (n := nl) (l := k) (by omega) (by omega)
      rw [rz_dc] at nx
      rw [e_121_5, rz_inl (by omega) (by omega), nI_1, nI_1]
      by_cases z : P k = true
      · rw [z] at bp
        rw [if_pos (of_decide_eq_true bp), rz_c_al t3 t4 t11 hnl (by omega) (by omega) (hr l (Nat.le_refl _) hP) (hr k (by omega) z), ra_kI]
        rw [z, Bool.true_and] at nx
        by_cases y : rz_al R l k nb 0 = true
        · rw [if_pos y] at nx
          rw [if_pos y, if_neg (by decide)]
          exact nx
        · rw [if_neg y, Nat.add_zero] at nx
          rw [if_neg y, if_pos rfl]
          exact nx
      · rw [Bool.eq_false_iff.mpr z, Bool.false_and, if_neg (show ¬ (false = true) by decide), Nat.add_zero] at nx
        rw [if_neg (fun y => z (by rw [← bp]; exact decide_eq_true y))]
        exact nx
  rw [e_121]
  exact loop (l + 1) 0 (by omega)
theorem rz_gf_le (P : Nat → Bool) (R : Nat → Nat → Int32) (nb : Nat) : ∀ n, rz_mxn (rz_gf P R nb) n ≤ n := by
  intro n
  rcases rz_mxn_ex (rz_gf P R nb) n with q | ⟨k, hk, e⟩
  · omega
  · rw [e]
    unfold rz_gf
    have := rz_dc_le (fun o => P o && rz_al R k o nb 0) (k + 1)
    split <;> omega
theorem rz_c_gg {np nb nl nw : Nat} {len : Nat → Nat} {σ τ : ra_S} (hB : rz_base np nb nl nw len σ) (hf : rz_ft σ τ) {p k : Nat} (hp : p < np) (hk : k < 4) (P : Nat → Bool) : ∃ υ : ra_S, ra_C 119 [.ref 0, .int (nI p), .int (nI (rz_pn P nl)), .int (nI (2 ^ k))] τ = ra_I (nI (rz_mxn (rz_gf P (rz_Rk σ len np nw p k) nb) nl)) υ ∧ rz_ft σ υ := by
  obtain ⟨⟨c1, c2, c3⟩, ⟨c4, c5, c6⟩, ⟨c7, -, c9⟩, -⟩ := id hB.1
  have plt := rz_pn_lt P nl
  have p2 : 2 ^ nl ≤ 256 := rz_p2 (by omega)
  have loop : ∀ m l, l + m = nl → ∀ τ1 : ra_S, rz_ft σ τ1 → (∀ o, o < l → P o = true → ∀ n, n < nb → τ1.1 85 (40 * o + n) = rz_Rk σ len np nw p k o n) → ∃ υ : ra_S, ra_D (ra_lay, none, 99999, ra_m119) 6 [some (.ref 0), some (.int (nI p)), some (.int (nI (rz_pn P nl))), some (.int (nI (2 ^ k))), some (.int (nI (rz_mxn (rz_gf P (rz_Rk σ len np nw p k) nb) l))), some (.int (nI l))] [] τ1 = ra_I (nI (rz_mxn (rz_gf P (rz_Rk σ len np nw p k) nb) nl)) υ ∧ rz_ft σ υ := by
    intro m
    induction m with
    | zero =>
      intro l hl τ1 f1 r1
      have : l = nl := by omega
      subst this
      rw [e_119_6, f1.1 11 (by omega), c7, rz_inl (by omega) (by omega)]
      exact ⟨τ1, rfl, f1⟩
    | succ m ih =>
      intro l hl τ1 f1 r1
      have bp := rz_bit_pn (P := P) (n := nl) (l := l) (by omega) (by omega)
      have b0 := rz_bit0 ⟨rz_pn P nl, by omega⟩ ⟨l, by omega⟩
      dsimp only at b0
      have gl := rz_gf_le P (rz_Rk σ len np nw p k) nb l
      rw [e_119_6, f1.1 11 (by omega), c7, rz_il (by omega) (by omega), if_pos (show nI l < (6 : Int32) from nI_lt (a := l) (b := 6) (by omega) (by omega)), nI_1]
      by_cases z : P l = true
      · have nz : ¬ (((nI (rz_pn P nl) >>> (nI l &&& 31)) &&& (1 : Int32)) = 0) := fun y => by
          rw [decide_eq_true y, bp, z] at b0
          cases b0
        obtain ⟨υ1, e1, f2, k1, t1⟩ := rz_pwl hB f1 hp (l := l) (by omega) (x := nI (2 ^ k)) (T := rz_T1 (σ.1 101) p k) (fun q hq j hj => rfl)
        obtain ⟨υ2, e2, g1, g2, g3⟩ := rz_c_keep t1 hp (l := l) (by rw [f2.1 11 (by omega)]; exact c7) c9 (by omega)
        have f3 : rz_ft σ υ2 := rz_ft.of f2 (fun c hc => g1 c (by omega))
        have rows : ∀ o, o < l + 1 → P o = true → ∀ n, n < nb → υ2.1 85 (40 * o + n) = rz_Rk σ len np nw p k o n := fun o ho hPo n hn => by
          by_cases y : o = l
          · rw [y]; exact g2 n hn
          · rw [g3 _ (by omega), k1 85 (by omega)]; exact r1 o (by omega) hPo n hn
        have nx := ih (l + 1) (by omega) υ2 f3 rows
        have gfl : rz_gf P (rz_Rk σ len np nw p k) nb l = rz_dc (fun o => P o && rz_al (rz_Rk σ len np nw p k) l o nb 0) (l + 1) := if_pos z
        have dl := rz_dc_le (fun o => P o && rz_al (rz_Rk σ len np nw p k) l o nb 0) (l + 1)
        rw [rz_mxn, gfl] at nx
        rw [if_neg nz, e1, ra_kV, e2, ra_kV, rz_c_alike (by rw [f3.1 10 (by omega)]; exact c4) c6 (by rw [f3.1 11 (by omega)]; exact c7) c9 (by omega) z (fun o ho hPo => rows o (by omega) hPo), ra_kI, rz_max47, ra_kI]
        by_cases y : rz_mxn (rz_gf P (rz_Rk σ len np nw p k) nb) l < rz_dc (fun o => P o && rz_al (rz_Rk σ len np nw p k) l o nb 0) (l + 1)
        · rw [if_pos y] at nx
          rw [rz_il (by omega) y]
          exact nx
        · rw [if_neg y] at nx
          rw [rz_inl (by omega) (by omega)]
          exact nx
      · have nz : (((nI (rz_pn P nl) >>> (nI l &&& 31)) &&& (1 : Int32)) = 0) := of_decide_eq_true (by rw [b0, bp, Bool.eq_false_iff.mpr z]; rfl)
        have gfl : rz_gf P (rz_Rk σ len np nw p k) nb l = 0 := if_neg z
        have nx := ih (l + 1) (by omega) τ1 f1 (fun o ho hPo => r1 o (by
          by_cases y : o = l
          · rw [y] at hPo; exact absurd hPo z
          · omega) hPo)
        rw [rz_mxn, gfl, if_neg (Nat.not_lt_zero _)] at nx
        rw [if_pos nz]
        exact nx
  obtain ⟨υ, e, f⟩ := loop nl 0 (by omega) τ hf (fun o ho => by omega)
  exact ⟨υ, by rw [e_119]; exact e, f⟩
theorem rz_m_al {nb : Nat} {τ : ra_S} (t3 : τ.1 86 12 = nI nb) (t4 : nb ≤ 40) {R : Nat → Nat → Int32} {a b : Nat} (ha : a < 6) (hb : b < 6) (ra : ∀ n, n < nb → τ.1 110 (40 * a + n) = R a n) (rb : ∀ n, n < nb → τ.1 110 (40 * b + n) = R b n) : ra_C 228 [.ref 86, .int (nI a), .int (nI b)] τ = ra_I (if rz_al R a b nb 0 = true then 1 else 0) τ := by
  have loop : ∀ d k, k + d = nb → ra_D (ra_lay, none, 99999, ra_m228) 2 [some (.ref 86), some (.int (nI a)), some (.int (nI b)), some (.int (nI k))] [] τ = ra_I (if rz_al R a b d k = true then 1 else 0) τ := by
    intro d
    induction d with
    | zero => intro k hk; rw [e_228_2, t3, rz_inl (by omega) (by omega)]; rfl
    | succ d ih =>
      intro k hk
      rw [e_228_2, t3, rz_il (by omega) (by omega), show (40 : Int32) = nI 40 from rfl, pk_mul, pk_mul, nI_add, nI_add, rz_ig (by omega) (by omega), rz_ig (by omega) (by omega), nI_clamp (by omega), nI_clamp (by omega), ra k (by omega), rb k (by omega), nI_1, rz_al]
      by_cases z : R a k = R b k
      · rw [if_pos z, if_pos z]; exact ih (k + 1) (by omega)
      · rw [if_neg z, if_neg z]; rfl
  rw [e_228]
  exact loop nb 0 (by omega)
set_option maxHeartbeats 2000000 in
theorem rz_m_gg {np nb nl nw : Nat} {len : Nat → Nat} {σ τ : ra_S} (hB : rz_base np nb nl nw len σ) {p k : Nat} (hf : rz_fl p (σ.1 101 p ||| nI (2 ^ k)) σ τ) (h93 : τ.1 93 (5 * p) = σ.1 93 (5 * p)) (hp : p < np) (hk : k < 4) (P : Nat → Bool) : ∃ υ : ra_S, ra_C 229 [.ref 86, .int (nI p), .int (nI (rz_pn P nl))] τ = ra_I (nI (rz_mxn (rz_gf P (rz_Rk σ len np nw p k) nb) nl)) υ ∧ rz_fl p (σ.1 101 p ||| nI (2 ^ k)) σ υ ∧ υ.1 93 (5 * p) = σ.1 93 (5 * p) := by
  obtain ⟨⟨c1, c2, c3⟩, ⟨c4, c5, c6⟩, ⟨-, c8, c9⟩, -⟩ := id hB.1
  have m5 : (5 : Int32) * nI p = nI (5 * p) := pk_mul 5 p
  have fl0 : ∀ {τ1 τ2 : ra_S}, rz_fl p (σ.1 101 p ||| nI (2 ^ k)) σ τ1 → (∀ c, c ≠ 110 → τ2.1 c = τ1.1 c) → rz_fl p (σ.1 101 p ||| nI (2 ^ k)) σ τ2 := fun {τ1 τ2} h g => ⟨fun c hc => by rw [g c (by omega)]; exact h.1 c hc, fun i hi => by rw [g 86 (by decide)]; exact h.2.1 i hi, fun i hi => by rw [g 93 (by decide)]; exact h.2.2.1 i hi, fun q hq => by rw [g 101 (by decide)]; exact h.2.2.2.1 q hq, by rw [g 101 (by decide)]; exact h.2.2.2.2⟩
  have copy : ∀ l, l < nl → ∀ (e : Nat → Nat → Int) (bg : Nat → Int) (τ0 : ra_S), rz_TM e bg np nb τ0 → ∀ d b, b + d = nb → ∀ (τ1 : ra_S) (o6 o7 : Option Value) (v2 v3 : Int32), (∀ c, c ≠ 110 → τ1.1 c = τ0.1 c) → (∀ i, i < b → τ1.1 110 (40 * l + i) = Int32.ofInt (e i p)) → (∀ i, i < 40 * l → τ1.1 110 i = τ0.1 110 i) → ∃ τ2 : ra_S, ra_D (ra_lay, none, 99999, ra_m229) 38 [some (.ref 86), some (.int (nI p)), some (.int v2), some (.int v3), some (.int (nI l)), some (.int (nI b)), o6, o7] [] τ1 = ra_D (ra_lay, none, 99999, ra_m229) 12 [some (.ref 86), some (.int (nI p)), some (.int v2), some (.int v3), some (.int (nI (l + 1))), some (.int (nI nb)), o6, o7] [] τ2 ∧ (∀ c, c ≠ 110 → τ2.1 c = τ0.1 c) ∧ (∀ i, i < nb → τ2.1 110 (40 * l + i) = Int32.ofInt (e i p)) ∧ (∀ i, i < 40 * l → τ2.1 110 i = τ0.1 110 i) := by
    intro l hl e bg τ0 t d
    obtain ⟨t1, t2, t3, t4, t5, t7⟩ := id t
    induction d with
    | zero =>
      intro b hb τ1 o6 o7 v2 v3 g1 g2 g3
      have : b = nb := by omega
      subst this
      rw [e_229_38, g1 86 (by decide), t3, rz_inl (by omega) (by omega), nI_1]
      exact ⟨τ1, rfl, g1, g2, g3⟩
    | succ d ih =>
      intro b hb τ1 o6 o7 v2 v3 g1 g2 g3
      rw [e_229_38, g1 86 (by decide), t3, rz_il (by omega) (by omega), show (8 : Int32) * nI b = nI (8 * b) from pk_mul 8 b, nI_add, rz_ig (by omega) (by omega), show (40 : Int32) * nI l = nI (40 * l) from pk_mul 40 l, nI_add, rz_ig (by omega) (by omega), nI_clamp (by omega), nI_clamp (by omega), g1 102 (by decide), (t7 b p (by omega) hp).1, nI_1]
      refine ih (b + 1) (by omega) (ra_ui τ1 110 (40 * l + b) (Int32.ofInt (e b p))) _ _ _ _ (fun c hc => by rw [ra_ui_1 c hc]; exact g1 c hc) (fun i hi => ?_) (fun i hi => ?_)
      · rw [ra_ui_get]
        by_cases z : i = b
        · rw [if_pos ⟨rfl, by omega⟩, z]
        · rw [if_neg (fun y => by omega)]; exact g2 i (by omega)
      · rw [ra_ui_get, if_neg (fun y => by omega)]; exact g3 i hi
  have l1 : ∀ m l, l + m = nl → ∀ (τ1 : ra_S) (o5 o6 o7 : Option Value) (v2 : Int32), rz_fl p (σ.1 101 p ||| nI (2 ^ k)) σ τ1 → (∀ o, o < l → ∀ n, n < nb → τ1.1 110 (40 * o + n) = rz_Rk σ len np nw p k o n) → ∃ (τ2 : ra_S) (o6' o7' : Option Value), ra_D (ra_lay, none, 99999, ra_m229) 12 [some (.ref 86), some (.int (nI p)), some (.int v2), some (.int (σ.1 93 (5 * p))), some (.int (nI l)), o5, o6, o7] [] τ1 = ra_D (ra_lay, none, 99999, ra_m229) 99 [some (.ref 86), some (.int (nI p)), some (.int v2), some (.int (σ.1 93 (5 * p))), some (.int 0), some (.int 0), o6', o7'] [] τ2 ∧ rz_fl p (σ.1 101 p ||| nI (2 ^ k)) σ τ2 ∧ τ2.1 93 (5 * p) = σ.1 93 (5 * p) ∧ (∀ o, o < nl → ∀ n, n < nb → τ2.1 110 (40 * o + n) = rz_Rk σ len np nw p k o n) := by
    intro m
    induction m with
    | zero =>
      intro l hl τ1 o5 o6 o7 v2 f1 r1
      have : l = nl := by omega
      subst this
      rw [e_229_12, f1.2.1 13 (by decide), c8, rz_inl (by omega) (by omega), m5, rz_ig (by omega) (by omega), nI_clamp (by omega)]
      refine ⟨_, _, _, rfl, ⟨fun c hc => by rw [ra_ui_1 c (by omega)]; exact f1.1 c hc, fun i hi => by rw [ra_ui_1 86 (by decide)]; exact f1.2.1 i hi, fun i hi => by rw [ra_ui_get, if_neg (fun y => hi y.2)]; exact f1.2.2.1 i hi, fun q hq => by rw [ra_ui_1 101 (by decide)]; exact f1.2.2.2.1 q hq, by rw [ra_ui_1 101 (by decide)]; exact f1.2.2.2.2⟩, by rw [ra_ui_get, if_pos ⟨rfl, rfl⟩], fun o ho n hn => by rw [ra_ui_1 110 (by decide)]; exact r1 o ho n hn⟩
    | succ m ih =>
      intro l hl τ1 o5 o6 o7 v2 f1 r1
      obtain ⟨υ1, e1, f2, k1, t1⟩ := rz_layL hB f1 hp (l := l) (by omega) (T := rz_T1 (σ.1 101) p k) (fun q hq j hj => by
        unfold rz_T1
        by_cases z : q = p
        · rw [if_pos z, if_pos z, z]
        · rw [if_neg z, if_neg z])
      obtain ⟨υ2, e2, g1, g2, g3⟩ := copy l (by omega) _ _ υ1 t1 nb 0 (by omega) υ1 o6 o7 v2 (σ.1 93 (5 * p)) (fun _ _ => rfl) (fun i hi => by omega) (fun _ _ => rfl)
      rw [e_229_12, f1.2.1 13 (by decide), c8, rz_il (by omega) (by omega), m5, rz_ig (by omega) (by omega), nI_clamp (by omega), e1, ra_kV, show (0 : Int32) = nI 0 from rfl, e2]
      refine ih (l + 1) (by omega) υ2 _ _ _ _ (fl0 f2 g1) (fun o ho n hn => ?_)
      by_cases z : o = l
      · rw [z]; exact g2 n hn
      · rw [g3 _ (by omega), k1 110 (by decide) (by decide)]; exact r1 o (by omega) n hn
  obtain ⟨τ2, q6, q7, e2, f2, h2, r2⟩ := l1 nl 0 (by omega) τ none none none (nI (rz_pn P nl)) hf (fun o ho => by omega)
  have u13 : τ2.1 86 13 = nI nl := by rw [f2.2.1 13 (by decide)]; exact c8
  have u12 : τ2.1 86 12 = nI nb := by rw [f2.2.1 12 (by decide)]; exact c5
  have inner : ∀ a, a < nl → ∀ (d b : Nat), b + d = nl → ∀ (o1 o3 : Option Value) (v4 : Int32), ra_D (ra_lay, none, 99999, ra_m229) 114 [some (.ref 86), o1, some (.int (nI (rz_pn P nl))), o3, some (.int v4), some (.int (nI a)), some (.int (nI (rz_dc (fun b => (P a && P b) && rz_al (rz_Rk σ len np nw p k) a b nb 0) b))), some (.int (nI b))] [] τ2 = ra_D (ra_lay, none, 99999, ra_m229) 114 [some (.ref 86), o1, some (.int (nI (rz_pn P nl))), o3, some (.int v4), some (.int (nI a)), some (.int (nI (rz_dc (fun b => (P a && P b) && rz_al (rz_Rk σ len np nw p k) a b nb 0) nl))), some (.int (nI nl))] [] τ2 := by
    intro a ha d
    generalize hQ : (fun b => (P a && P b) && rz_al (rz_Rk σ len np nw p k) a b nb 0) = Q
    induction d with
    | zero => intro b hb o1 o3 v4; have : b = nl := by omega
              subst this; rfl
    | succ d ih =>
      intro b hb o1 o3 v4
      have nx := ih (b + 1) (by omega) o1 o3 v4
      have ba := rz_bit_pn (P := P) (n := nl) (l := a) (by omega) (by omega)
      have bb := rz_bit_pn (P := P) (n := nl) (l := b) (by omega) (by omega)
      have hq : Q b = ((P a && P b) && rz_al (rz_Rk σ len np nw p k) a b nb 0) := by rw [← hQ]
      rw [rz_dc, hq] at nx
      rw [e_229_114, u13, rz_il (by omega) (by omega), rz_m_bit, ra_kI, rz_m_bit, ra_kI, rz_m_al u12 c6 (by omega) (by omega) (r2 a ha) (r2 b (by omega)), ra_kI, ba, bb, nI_1, nI_1, Int32.add_zero]
      by_cases za : P a = true
      · rw [if_pos za, if_neg (by decide)]
        rw [za, Bool.true_and] at nx
        by_cases zb : P b = true
        · rw [if_pos zb, if_neg (by decide)]
          rw [zb, Bool.true_and] at nx
          by_cases zl : rz_al (rz_Rk σ len np nw p k) a b nb 0 = true
          · rw [if_pos zl] at nx
            rw [if_pos zl, if_neg (by decide)]
            exact nx
          · rw [if_neg zl, Nat.add_zero] at nx
            rw [if_neg zl, if_pos rfl]
            exact nx
        · rw [if_neg zb, if_pos rfl]
          rw [Bool.eq_false_iff.mpr zb, Bool.false_and, if_neg (show ¬ (false = true) by decide), Nat.add_zero] at nx
          exact nx
      · rw [if_neg za, if_pos rfl]
        rw [Bool.eq_false_iff.mpr za, Bool.false_and, Bool.false_and, if_neg (show ¬ (false = true) by decide), Nat.add_zero] at nx
        exact nx
  have outer : ∀ d a, a + d = nl → ∀ (o1 o3 o6 o7 : Option Value), ra_D (ra_lay, none, 99999, ra_m229) 99 [some (.ref 86), o1, some (.int (nI (rz_pn P nl))), o3, some (.int (nI (rz_mxn (fun a => rz_dc (fun b => (P a && P b) && rz_al (rz_Rk σ len np nw p k) a b nb 0) nl) a))), some (.int (nI a)), o6, o7] [] τ2 = ra_I (nI (rz_mxn (fun a => rz_dc (fun b => (P a && P b) && rz_al (rz_Rk σ len np nw p k) a b nb 0) nl) nl)) τ2 := by
    intro d
    induction d with
    | zero => intro a ha o1 o3 o6 o7; have : a = nl := by omega
              subst this; rw [e_229_99, u13, rz_inl (by omega) (by omega)]
    | succ d ih =>
      intro a ha o1 o3 o6 o7
      have nx := ih (a + 1) (by omega) o1 o3
      have i := inner a (by omega) nl 0 (by omega) o1 o3 (nI (rz_mxn (fun a => rz_dc (fun b => (P a && P b) && rz_al (rz_Rk σ len np nw p k) a b nb 0) nl) a))
      have dl := rz_dc_le (fun b => (P a && P b) && rz_al (rz_Rk σ len np nw p k) a b nb 0) nl
      have ml : rz_mxn (fun a => rz_dc (fun b => (P a && P b) && rz_al (rz_Rk σ len np nw p k) a b nb 0) nl) a ≤ nl := by
        rcases rz_mxn_ex (fun a => rz_dc (fun b => (P a && P b) && rz_al (rz_Rk σ len np nw p k) a b nb 0) nl) a with q | ⟨x, hx, ex⟩
        · omega
        · rw [ex]; exact rz_dc_le _ _
      rw [rz_mxn] at nx
      rw [e_229_99, u13, rz_il (by omega) (by omega)]
      refine Eq.trans i ?_
      rw [e_229_114, u13, rz_inl (by omega) (by omega), nI_1]
      by_cases y : rz_mxn (fun a => rz_dc (fun b => (P a && P b) && rz_al (rz_Rk σ len np nw p k) a b nb 0) nl) a < rz_dc (fun b => (P a && P b) && rz_al (rz_Rk σ len np nw p k) a b nb 0) nl
      · rw [if_pos y] at nx
        rw [rz_il (by omega) y]
        exact nx _ _
      · rw [if_neg y] at nx
        rw [rz_inl (by omega) (by omega)]
        exact nx _ _
  refine ⟨τ2, ?_, f2, h2⟩
  have gr := rz_grpR P (rz_Rk σ len np nw p k) nb nl
  rw [e_229, m5, rz_ig (by omega) (by omega), nI_clamp (by omega), h93, show (0 : Int32) = nI 0 from rfl]
  refine Eq.trans e2 ?_
  have := outer nl 0 (by omega) (some (.int (nI p))) (some (.int (σ.1 93 (5 * p)))) q6 q7
  rw [← gr] at this
  exact this
