-- ===== near what is known; laws instead of one's own =====
theorem rz_base_n {σ : ra_S} (h : rz_R σ) : ∃ (np nb nl nw : Nat) (len : Nat → Nat) (nn : Nat), rz_base np nb nl nw len σ ∧ rz_notes np nb nn σ := by
  obtain ⟨np, nb, nl, nw, len, hB⟩ := rz_base_of h
  obtain ⟨np', nb', nl', nw', ku, tp, nn, tc, hc, -, -, -, -, -, -, hn, -⟩ := h
  obtain ⟨rfl, rfl, -, -⟩ := rz_np_uniq hB.1 hc
  exact ⟨_, _, nl, nw, len, nn, hB, hn⟩
theorem rz_notes_ft {np nb nn : Nat} {σ τ : ra_S} (h : rz_notes np nb nn σ) (hf : rz_ft σ τ) : rz_notes np nb nn τ := rz_notes_eq (hf.1 56 (by omega)) (hf.1 57 (by omega)) (hf.1 58 (by omega)) (hf.1 59 (by omega)) (hf.1 60 (by omega)) (hf.2 47 (by decide)) (hf.2 48 (by decide)) (hf.1 106 (by omega)) (hf.1 107 (by omega)) (hf.1 108 (by omega)) h
def rz_nr (P : Nat → Bool) : Nat → Nat → Bool
  | 0, _ => true
  | d + 1, k => if P k = true then false else rz_nr P d (k + 1)
def rz_Pn (σ : ra_S) (K : Nat → Bool) (e : Nat → Nat → Int) (p : Nat) (d : Int) (k : Nat) : Bool := K k && (decide (σ.1 57 k = nI p) && decide (d < rz_ab (e (σ.1 58 k).toNatClampNeg p - (σ.1 59 k).toInt)))
theorem rz_neg1 {n : Nat} (h : n < 2147483648) : ¬ (-1 : Int32) = nI n := fun y => by
  have := congrArg Int32.toInt y
  rw [nI_toInt h] at this
  have q : ((-1 : Int32)).toInt = -1 := rfl
  omega
theorem rz_c_near {np nb nn : Nat} {σ τ : ra_S} {e : Nat → Nat → Int} {bg : Nat → Int} (t : rz_TC e bg np nb τ) (nt : rz_notes np nb nn τ) (ns : rz_notes np nb nn σ) (h57 : τ.1 57 = σ.1 57) (h58 : τ.1 58 = σ.1 58) (h59 : τ.1 59 = σ.1 59) (h48 : τ.1 86 48 = σ.1 86 48) {K : Nat → Bool} (h61 : ∀ i, i < 40 → τ.1 61 i = if K i = true then 0 else 1) {p : Nat} (hp : p < np) {d : Int32} (hd : 0 ≤ d.toInt ∧ d.toInt ≤ 9999) : ra_C 16 [.ref 56, .ref 72, .int (nI p), .int d] τ = ra_I (if rz_nr (rz_Pn σ K e p d.toInt) (rz_kn σ nn) 0 = true then 1 else 0) τ := by
  obtain ⟨kl, ke⟩ := rz_kn_le ns
  obtain ⟨t1, t2, t3, t4, t5, t6, t7⟩ := id t
  obtain ⟨n1, n2, n3, n4, n5, n6⟩ := id nt
  have kc : ra_C 11 [.ref 56] τ = ra_I (nI (rz_kn σ nn)) τ := by rw [(rz_known_eq nt).1, h48, ke]
  have loop : ∀ m k, k + m = rz_kn σ nn → ra_D (ra_lay, none, 99999, ra_m16) 3 [some (.ref 56), some (.ref 72), some (.int (nI p)), some (.int d), some (.int (nI k))] [] τ = ra_I (if rz_nr (rz_Pn σ K e p d.toInt) m k = true then 1 else 0) τ := by
    intro m
    induction m with
    | zero => intro k hk; rw [e_16_3, kc, ra_kI, rz_inl (by omega) (by omega)]; rfl
    | succ m ih =>
      intro k hk
      have nx := ih (k + 1) (by omega)
      have hk2 : k < nn := by omega
      rw [e_16_3, kc, ra_kI, rz_il (by omega) (by omega), show (40 : Int32) = nI 40 from rfl, rz_il (by omega) (by omega), rz_ig (by omega) (by omega), rz_ig (by omega) (by omega), rz_ig (by omega) (by omega), nI_clamp (by omega), h61 k (by omega), nI_1]
      rcases n6 k hk2 with ⟨q, n, hq, hn, s57, -, s58, -, s59, s59b, -⟩ | ⟨j, hj, s57, -⟩
      · have e57 : σ.1 57 k = nI q := by rw [← h57]; exact s57
        have e58 : σ.1 58 k = nI n := by rw [← h58]; exact s58
        have pk : rz_Pn σ K e p d.toInt k = (K k && (decide (nI q = nI p) && decide (d.toInt < rz_ab (e n p - (σ.1 59 k).toInt)))) := by
          unfold rz_Pn
          rw [e57, e58, nI_clamp (by omega)]
        rw [s57, s58]
        by_cases z : q = p
        · subst z
          rw [rz_ie rfl]
          by_cases y : K k = true
          · rw [if_pos y, if_pos rfl, rz_c_at (by omega) (by omega), ra_kI, rz_ig (by omega) (by omega)]
            obtain ⟨r1, r2⟩ := t7 n q hn hp
            have b59 : -1000000 ≤ (τ.1 59 k).toInt ∧ (τ.1 59 k).toInt ≤ 1000000 := by rw [s59]; exact s59b
            have ab := rz_ab_in (x := e n q - (τ.1 59 k).toInt) (by omega)
            have e59 : τ.1 59 k = Int32.ofInt (τ.1 59 k).toInt := (rz_ofI _).symm
            rw [r1, e59, ← Int32.ofInt_sub, rz_c_abs τ (by omega), ra_kI]
            have bigi : d < Int32.ofInt (rz_ab (e n q - (τ.1 59 k).toInt)) ↔ d.toInt < rz_ab (e n q - (τ.1 59 k).toInt) := by rw [Int32.lt_iff_toInt_lt, rz_oI (by omega) (by omega)]
            rw [rz_nr, pk, y, ← h59, decide_eq_true (rfl : nI q = nI q), Bool.true_and, Bool.true_and]
            by_cases w : d.toInt < rz_ab (e n q - (τ.1 59 k).toInt)
            · rw [if_pos (bigi.mpr w), decide_eq_true w, if_pos rfl]; rfl
            · rw [if_neg (fun v => w (bigi.mp v)), decide_eq_false w, if_neg (show ¬ (false = true) by decide), nx]
          · rw [if_neg y, if_neg (by decide), rz_nr, pk, Bool.eq_false_iff.mpr y, Bool.false_and, if_neg (show ¬ (false = true) by decide), nx]
        · rw [rz_ine (by omega) (by omega) z, rz_nr, pk, decide_eq_false (fun y => z ((nI_eq (by omega) (by omega)).mp y)), Bool.false_and, Bool.and_false, if_neg (show ¬ (false = true) by decide), nx]
      · have e57 : σ.1 57 k = -1 := by rw [← h57]; exact s57
        have pk : rz_Pn σ K e p d.toInt k = false := by
          unfold rz_Pn
          rw [e57, decide_eq_false (rz_neg1 (by omega)), Bool.false_and, Bool.and_false]
        rw [s57, if_neg (rz_neg1 (by omega)), rz_nr, pk, if_neg (show ¬ (false = true) by decide), nx]
  rw [e_16]
  exact loop (rz_kn σ nn) 0 (by omega)
theorem rz_m_near {np nb nn : Nat} {σ τ : ra_S} {e : Nat → Nat → Int} {bg : Nat → Int} (t : rz_TM e bg np nb τ) (nt : rz_notes np nb nn τ) (ns : rz_notes np nb nn σ) (h57 : τ.1 57 = σ.1 57) (h58 : τ.1 58 = σ.1 58) (h59 : τ.1 59 = σ.1 59) (h48 : τ.1 86 48 = σ.1 86 48) {K : Nat → Bool} (h109 : ∀ i, i < rz_kn σ nn → τ.1 109 i = if K i = true then 1 else 0) {p : Nat} (hp : p < np) {d : Int32} (hd : 0 ≤ d.toInt ∧ d.toInt ≤ 9999) : ra_C 225 [.ref 86, .int (nI p), .int d] τ = ra_I (if rz_nr (rz_Pn σ K e p d.toInt) (rz_kn σ nn) 0 = true then 1 else 0) τ := by
  obtain ⟨kl, ke⟩ := rz_kn_le ns
  obtain ⟨t1, t2, t3, t4, t5, t7⟩ := id t
  obtain ⟨n1, n2, n3, n4, n5, n6⟩ := id nt
  have kc : ra_C 223 [.ref 86] τ = ra_I (nI (rz_kn σ nn)) τ := by rw [(rz_known_eq nt).2, h48, ke]
  have loop : ∀ m k, k + m = rz_kn σ nn → ra_D (ra_lay, none, 99999, ra_m225) 2 [some (.ref 86), some (.int (nI p)), some (.int d), some (.int (nI k))] [] τ = ra_I (if rz_nr (rz_Pn σ K e p d.toInt) m k = true then 1 else 0) τ := by
    intro m
    induction m with
    | zero => intro k hk; rw [e_225_2, kc, ra_kI, rz_inl (by omega) (by omega)]; rfl
    | succ m ih =>
      intro k hk
      have nx := ih (k + 1) (by omega)
      have hk2 : k < nn := by omega
      rw [e_225_2, kc, ra_kI, rz_il (by omega) (by omega), rz_ig (by omega) (by omega), rz_ig (by omega) (by omega), rz_ig (by omega) (by omega), nI_clamp (by omega), h109 k (by omega), nI_1]
      rcases n6 k hk2 with ⟨q, n, hq, hn, s57, s106, s58, s107, s59, s59b, -⟩ | ⟨j, hj, s57, s106, -⟩
      · have e57 : σ.1 57 k = nI q := by rw [← h57]; exact s57
        have e58 : σ.1 58 k = nI n := by rw [← h58]; exact s58
        have pk : rz_Pn σ K e p d.toInt k = (K k && (decide (nI q = nI p) && decide (d.toInt < rz_ab (e n p - (σ.1 59 k).toInt)))) := by
          unfold rz_Pn
          rw [e57, e58, nI_clamp (by omega)]
        rw [s106, s107]
        by_cases y : K k = true
        · rw [if_pos y, if_neg (by decide)]
          by_cases z : q = p
          · subst z
            rw [rz_ie rfl, show (8 : Int32) * nI n = nI (8 * n) from pk_mul 8 n, nI_add, rz_ig (by omega) (by omega), rz_ig (by omega) (by omega), nI_clamp (by omega), ← s59]
            obtain ⟨r1, r2⟩ := t7 n q hn hp
            have b59 : -1000000 ≤ (τ.1 59 k).toInt ∧ (τ.1 59 k).toInt ≤ 1000000 := by rw [s59]; exact s59b
            have ab := rz_ab_in (x := e n q - (τ.1 59 k).toInt) (by omega)
            have e59 : τ.1 59 k = Int32.ofInt (τ.1 59 k).toInt := (rz_ofI _).symm
            rw [r1, e59, ← Int32.ofInt_sub, rz_m_abs τ (by omega), ra_kI]
            have bigi : d < Int32.ofInt (rz_ab (e n q - (τ.1 59 k).toInt)) ↔ d.toInt < rz_ab (e n q - (τ.1 59 k).toInt) := by rw [Int32.lt_iff_toInt_lt, rz_oI (by omega) (by omega)]
            rw [rz_nr, pk, y, ← h59, decide_eq_true (rfl : nI q = nI q), Bool.true_and, Bool.true_and]
            by_cases w : d.toInt < rz_ab (e n q - (τ.1 59 k).toInt)
            · rw [if_pos (bigi.mpr w), decide_eq_true w, if_pos rfl]; rfl
            · rw [if_neg (fun v => w (bigi.mp v)), decide_eq_false w, if_neg (show ¬ (false = true) by decide), nx]
          · rw [rz_ine (by omega) (by omega) z, rz_nr, pk, decide_eq_false (fun y => z ((nI_eq (by omega) (by omega)).mp y)), Bool.false_and, Bool.and_false, if_neg (show ¬ (false = true) by decide), nx]
        · rw [if_neg y, if_pos rfl, rz_nr, pk, Bool.eq_false_iff.mpr y, Bool.false_and, if_neg (show ¬ (false = true) by decide), nx]
      · have e57 : σ.1 57 k = -1 := by rw [← h57]; exact s57
        have pk : rz_Pn σ K e p d.toInt k = false := by
          unfold rz_Pn
          rw [e57, decide_eq_false (rz_neg1 (by omega)), Bool.false_and, Bool.and_false]
        rw [rz_nr, pk, if_neg (show ¬ (false = true) by decide), ← nx, s106, if_neg (rz_neg1 (by omega))]
        exact ite_self _
  rw [e_225]
  exact loop (rz_kn σ nn) 0 (by omega)
-- ===== with another law =====
theorem rz_goBy {τ : ra_S} {p : Nat} (hp : p < 8) (x : Int32) : ra_C 254 [.ref 62, .int (nI p), .int x] τ = ra_V (ra_ui τ 65 p x) := by
  rw [e_254, e_9, if_neg (nI_pos (by omega)), show (8 : Int32) = nI 8 from rfl, rz_il (by omega) hp, ra_kI, if_neg (by decide), rz_ig (by omega) (by omega), nI_clamp (by omega)]
def rz_lwL (σ : ra_S) (p l q : Nat) : Nat := if q = p then l else rz_lw0 σ q
noncomputable abbrev rz_EL (σ : ra_S) (len : Nat → Nat) (np nw p l : Nat) (T : Nat → Int32) : rz_En := rz_mkE σ len (rz_lwL σ p l) (rz_X0 σ) (rz_Y0 σ) T (rz_S0 σ) (rz_H0 σ) false (rz_exf σ np nw 0 0 0 0 0)
theorem rz_pwl {np nb nl nw : Nat} {len : Nat → Nat} {σ τ : ra_S} (hB : rz_base np nb nl nw len σ) (hf : rz_ft σ τ) {p l : Nat} (hp : p < np) (hl : l < nl) {x : Int32} {T : Nat → Int32} (hT : ∀ q, q < np → ∀ j, j < 4 → rz_bit (if q = p then σ.1 101 q ||| x else σ.1 101 q) j = rz_bit (T q) j) : ∃ υ : ra_S, ra_C 118 [.ref 0, .int (nI p), .int (nI l), .int x] τ = ra_V υ ∧ rz_ft σ υ ∧ (∀ c, ¬ (62 ≤ c ∧ c ≤ 74) → υ.1 c = τ.1 c) ∧ rz_TC (rz_e (rz_EL σ len np nw p l T) np) (fun n => (rz_sum len n : Int)) np nb υ := by
  have c3 := hB.1.1.2.2
  obtain ⟨υ, e, f1, fit, g1, g2, g3, g4, g5, g6, g7⟩ := rz_fillF hB hf
  generalize hτ : ra_ui (ra_ui υ 66 p (υ.1 66 p ||| x)) 65 p (nI l) = υ1
  have fr : ∀ c, c ≠ 65 → c ≠ 66 → υ1.1 c = υ.1 c := fun c k1 k2 => by rw [← hτ, ra_ui_1 c k1, ra_ui_1 c k2]
  have f2 : rz_ft σ υ1 := rz_ft.of f1 (fun c hc => fr c (by omega) (by omega))
  have fit2 : rz_fitC np nl (rz_lwL σ p l) (rz_X0 σ) (rz_Y0 σ) T (rz_S0 σ) (rz_H0 σ) false υ1 := by
    intro q hq
    obtain ⟨k1, k2, k3, k4, k5, k6, k7, k8⟩ := fit q hq
    have h65 : υ1.1 65 q = nI (rz_lwL σ p l q) := by
      rw [← hτ, ra_ui_get]
      unfold rz_lwL
      by_cases z : q = p
      · rw [if_pos ⟨rfl, z⟩, if_pos z]
      · rw [if_neg (fun y => z y.2), ra_ui_1 65 (by decide), if_neg z]; exact k1
    have h66 : υ1.1 66 q = if q = p then σ.1 101 q ||| x else σ.1 101 q := by
      rw [← hτ, ra_ui_1 66 (by decide), ra_ui_get]
      by_cases z : q = p
      · rw [if_pos ⟨rfl, z⟩, if_pos z, ← z, (g3 q hq).1]
      · rw [if_neg (fun y => z y.2), if_neg z, (g3 q hq).1]
    refine ⟨h65, ?_, by rw [fr 63 (by decide) (by decide)]; exact k3, by rw [fr 64 (by decide) (by decide)]; exact k4, k5, k6, fun j hj => ?_, by rw [fr 67 (by decide) (by decide), fr 68 (by decide) (by decide)]; exact k8⟩
    · unfold rz_lwL
      by_cases z : q = p
      · rw [if_pos z]; exact hl
      · rw [if_neg z]; exact k2
    · rw [h66, hT q hq j hj, Bool.and_false, Bool.or_false]
  obtain ⟨υ2, e2, f3, k1, k2, k3, k4, k5⟩ := rz_goC hB f2 fit2 (xp := 0) (xb := 0) (s := 0) (j := 0) (xv := 0) (by omega) (by rw [fr 62 (by decide) (by decide)]; exact g7) (by omega) (by omega) (fun b p _ _ => rz_noX (nb := nb) (np := np) (by rw [fr 62 (by decide) (by decide)]; exact g6) b p) (Or.inl rfl)
  refine ⟨υ2, ?_, f3, fun c hc => ?_, rz_TC_mk hB f3 k4⟩
  · rw [e_118, e, ra_kV, rz_takeAlso (by omega), ra_kV, rz_goBy (by omega), ra_kV, hτ, e2, ra_kV]
  · rw [k1 c (by simp only [List.mem_cons, List.not_mem_nil, or_false, not_or]; omega), fr c (by omega) (by omega), g1 c (by omega)]
/-- what the reference may have changed while it tries laws of player p, t taken from him -/
def rz_fl (p : Nat) (t : Int32) (σ τ : ra_S) : Prop := (∀ c, ¬ (c = 86 ∨ c = 93 ∨ c = 101 ∨ c = 61 ∨ (62 ≤ c ∧ c ≤ 85 ∧ c ≠ 75) ∨ c = 102 ∨ c = 104 ∨ c = 105 ∨ (109 ≤ c ∧ c ≤ 114)) → τ.1 c = σ.1 c) ∧ (∀ k, k ≠ 2 → τ.1 86 k = σ.1 86 k) ∧ (∀ i, i ≠ 5 * p → τ.1 93 i = σ.1 93 i) ∧ (∀ q, q ≠ p → τ.1 101 q = σ.1 101 q) ∧ τ.1 101 p = t
theorem rz_fl_of {p : Nat} {σ τ : ra_S} (h : rz_ft σ τ) : rz_fl p (σ.1 101 p) σ τ := ⟨fun c hc => h.1 c (by omega), h.2, fun i _ => by rw [h.1 93 (by omega)], fun q _ => by rw [h.1 101 (by omega)], by rw [h.1 101 (by omega)]⟩
theorem rz_fl_to {p : Nat} {t : Int32} {σ τ : ra_S} (h : rz_fl p t σ τ) : rz_ft σ (ra_ui (ra_ui τ 93 (5 * p) (σ.1 93 (5 * p))) 101 p (σ.1 101 p)) := by
  obtain ⟨h1, h2, h3, h4, h5⟩ := h
  refine ⟨fun c hc => ?_, fun k hk => by rw [ra_ui_1 86 (by decide), ra_ui_1 86 (by decide)]; exact h2 k hk⟩
  by_cases z : c = 101
  · subst z
    funext q
    rw [ra_ui_get]
    by_cases y : q = p
    · rw [if_pos ⟨rfl, y⟩, y]
    · rw [if_neg (fun x => y x.2), ra_ui_1 101 (by decide)]; exact h4 q y
  · rw [ra_ui_1 c z]
    by_cases y : c = 93
    · subst y
      funext i
      rw [ra_ui_get]
      by_cases x : i = 5 * p
      · rw [if_pos ⟨rfl, x⟩, x]
      · rw [if_neg (fun w => x w.2)]; exact h3 i x
    · rw [ra_ui_1 c y]; exact h1 c (by omega)
theorem rz_fl_to0 {p : Nat} {σ τ : ra_S} (h : rz_fl p (σ.1 101 p) σ τ) : rz_ft σ (ra_ui τ 93 (5 * p) (σ.1 93 (5 * p))) := by
  obtain ⟨h1, h2, h3, h4, h5⟩ := h
  refine ⟨fun c hc => ?_, fun k hk => by rw [ra_ui_1 86 (by decide)]; exact h2 k hk⟩
  by_cases y : c = 93
  · subst y
    funext i
    rw [ra_ui_get]
    by_cases x : i = 5 * p
    · rw [if_pos ⟨rfl, x⟩, x]
    · rw [if_neg (fun w => x w.2)]; exact h3 i x
  · rw [ra_ui_1 c y]
    by_cases z : c = 101
    · subst z
      funext q
      by_cases x : q = p
      · rw [x]; exact h5
      · exact h4 q x
    · exact h1 c (by omega)
theorem rz_layL {np nb nl nw : Nat} {len : Nat → Nat} {σ τ : ra_S} (hB : rz_base np nb nl nw len σ) {p l : Nat} {t : Int32} (hf : rz_fl p t σ τ) (hp : p < np) (hl : l < nl) {T : Nat → Int32} (hT : ∀ q, q < np → ∀ j, j < 4 → rz_bit (if q = p then t else σ.1 101 q) j = rz_bit (T q) j) : ∃ υ : ra_S, ra_C 190 [.ref 86] (ra_ui τ 93 (5 * p) (nI l)) = ra_V υ ∧ rz_fl p t σ υ ∧ (∀ c, c ≠ 102 → c ≠ 93 → υ.1 c = τ.1 c) ∧ rz_TM (rz_e (rz_EL σ len np nw p l T) np) (fun n => (rz_sum len n : Int)) np nb υ := by
  have c3 := hB.1.1.2.2
  obtain ⟨t1, t2, t3, t4, t5⟩ := id hf
  generalize hτ : ra_ui τ 93 (5 * p) (nI l) = τ1
  have fr : ∀ c, c ≠ 93 → τ1.1 c = τ.1 c := fun c hc => by rw [← hτ, ra_ui_1 c hc]
  have f93 : ∀ i, τ1.1 93 i = if i = 5 * p then nI l else σ.1 93 i := fun i => by
    rw [← hτ, ra_ui_get]
    by_cases z : i = 5 * p
    · rw [if_pos ⟨rfl, z⟩, if_pos z]
    · rw [if_neg (fun y => z y.2), if_neg z]; exact t3 i z
  have f86 : ∀ k, k ≠ 2 → τ1.1 86 k = σ.1 86 k := fun k hk => by rw [fr 86 (by decide)]; exact t2 k hk
  have st : τ1.1 86 39 = -1 := by rw [f86 39 (by decide)]; exact hB.2.2.2.2.2.2.1
  have fit : rz_fitM np nl (rz_lwL σ p l) (rz_X0 σ) (rz_Y0 σ) T (rz_S0 σ) (rz_H0 σ) false σ τ1 := by
    obtain ⟨-, k1, k2, k3, k4, k5⟩ := rz_fitM_ft hB (rz_ft.rf σ)
    refine ⟨by rw [st]; rfl, by rw [fr 91 (by decide)]; exact t1 91 (by omega), by rw [fr 89 (by decide)]; exact t1 89 (by omega), f86 14 (by decide), f86 12 (by decide), fun q hq => ?_⟩
    obtain ⟨l1, l2, l3, l4, l5, l6, l7, l8, l9⟩ := k5 q hq
    refine ⟨?_, ?_, by rw [f93, if_neg (by omega)]; exact l3, by rw [f93, if_neg (by omega)]; exact l4, by rw [f93, if_neg (by omega)], l6, l7, fun j hj => ?_, fun q' hq' => ?_⟩
    · rw [f93]
      unfold rz_lwL
      by_cases z : q = p
      · rw [if_pos (by omega), if_pos z]
      · rw [if_neg (by omega), if_neg z]; exact l1
    · unfold rz_lwL
      by_cases z : q = p
      · rw [if_pos z]; exact hl
      · rw [if_neg z]; exact l2
    · rw [fr 101 (by decide), ← hT q hq j hj]
      by_cases z : q = p
      · rw [if_pos z, z, t5]
      · rw [if_neg z, t4 q z]
    · rw [rz_on_all st, Bool.true_and, Bool.true_and, fr 94 (by decide), fr 95 (by decide), t1 94 (by omega), t1 95 (by omega)]
      exact ⟨rfl, rfl⟩
  have mw : rz_MW (rz_fw σ) nw τ1 := by
    have := hB.2.2.2.2.1.2
    unfold rz_MW at this ⊢
    rw [f86 15 (by decide), fr 96 (by decide), t1 96 (by omega)]
    exact this
  obtain ⟨υ, e, k1, k2, k3, k4⟩ := rz_goM hB fit (xp := 0) (xb := 0) (s := 0) (j := 0) (xv := 0) (by omega) (by omega) (by omega) (Or.inl ⟨mw, rfl⟩) (Or.inl ⟨by rw [f86 41 (by decide)]; exact hB.2.2.2.2.2.2.2.2.1, rfl⟩)
  refine ⟨υ, e, ⟨fun c hc => ?_, fun k hk => ?_, fun i hi => ?_, fun q hq => ?_, ?_⟩, fun c c1 c2 => by rw [k1 c c1, fr c c2], rz_TM_mk hB ?_ ?_ ?_ (fun b p hb hp => k3 b p hb hp (rz_on_all st p))⟩
  · rw [k1 c (by omega), fr c (by omega)]; exact t1 c hc
  · rw [k1 86 (by decide)]; exact f86 k hk
  · rw [k1 93 (by decide), f93, if_neg hi]
  · rw [k1 101 (by decide), fr 101 (by decide)]; exact t4 q hq
  · rw [k1 101 (by decide), fr 101 (by decide)]; exact t5
  · rw [k1 86 (by decide)]; exact f86 14 (by decide)
  · rw [k1 86 (by decide)]; exact f86 12 (by decide)
  · rw [k1 89 (by decide), fr 89 (by decide)]; exact t1 89 (by omega)
-- ===== fits =====
noncomputable def rz_FP (σ : ra_S) (len : Nat → Nat) (np nw nn p : Nat) (d : Int) (l : Nat) : Bool := rz_nr (rz_Pn σ (rz_cn (rz_st σ) (rz_kn σ nn) (rz_kn σ nn)) (rz_e (rz_EL σ len np nw p l (σ.1 101)) np) p d) (rz_kn σ nn) 0
theorem rz_c_fit {np nb nl nw nn : Nat} {len : Nat → Nat} {σ τ : ra_S} (hB : rz_base np nb nl nw len σ) (hn : rz_notes np nb nn σ) (hf : rz_ft σ τ) {p : Nat} (hp : p < np) {d : Int32} (hd : 0 ≤ d.toInt ∧ d.toInt ≤ 9999) : ∃ υ : ra_S, ra_C 117 [.ref 0, .int (nI p), .int d] τ = ra_I (rz_ib (rz_FP σ len np nw nn p d.toInt) 0 nl) υ ∧ rz_ft σ υ := by
  obtain ⟨c7, -, c9⟩ := hB.1.2.2.1
  have nt := rz_notes_ft hn hf
  obtain ⟨υ, e, g1, g2, g3⟩ := rz_c_judge nt
  have f1 : rz_ft σ υ := rz_ft.of hf (fun c hc => g1 c (by omega))
  have st : rz_st τ = rz_st σ := by
    funext n
    unfold rz_st
    rw [hf.1 60 (by omega)]
  have kn : rz_kn τ nn = rz_kn σ nn := by
    unfold rz_kn
    rw [hf.2 48 (by decide)]
  rw [st, kn] at g3
  have loop : ∀ m l, l + m = nl → ∀ υ1 : ra_S, rz_ft σ υ1 → υ1.1 61 = υ.1 61 → ∃ υ2 : ra_S, ra_D (ra_lay, none, 99999, ra_m117) 12 [some (.ref 0), some (.int (nI p)), some (.int d), some (.int (rz_ib (rz_FP σ len np nw nn p d.toInt) 0 l)), some (.int (nI l))] [] υ1 = ra_I (rz_ib (rz_FP σ len np nw nn p d.toInt) 0 nl) υ2 ∧ rz_ft σ υ2 := by
    intro m
    induction m with
    | zero =>
      intro l hl υ1 f2 h61
      have : l = nl := by omega
      subst this
      rw [e_117_12, f2.1 11 (by omega), c7, rz_inl (by omega) (by omega)]
      exact ⟨υ1, rfl, f2⟩
    | succ m ih =>
      intro l hl υ1 f2 h61
      obtain ⟨υ3, e3, f3, k1, t3⟩ := rz_pwl hB f2 hp (l := l) (by omega) (x := 0) (T := σ.1 101) (fun q hq j hj => by
        rw [Int32.or_zero]
        by_cases z : q = p
        · rw [if_pos z]
        · rw [if_neg z])
      have nx := ih (l + 1) (by omega) υ3 f3 (by rw [k1 61 (by omega), h61])
      rw [rz_ib] at nx
      rw [e_117_12, f2.1 11 (by omega), c7, rz_il (by omega) (by omega), if_pos (show nI l < (6 : Int32) from nI_lt (a := l) (b := 6) (by omega) (by omega)), e3, ra_kV, rz_c_near t3 (rz_notes_ft hn f3) hn (f3.1 57 (by omega)) (f3.1 58 (by omega)) (f3.1 59 (by omega)) (f3.2 48 (by decide)) (fun i hi => by rw [k1 61 (by omega), h61]; exact g3 i hi) hp hd, ra_kI, nI_1]
      by_cases z : rz_FP σ len np nw nn p d.toInt l = true
      · rw [if_pos z] at nx
        have z' := z
        unfold rz_FP at z'
        rw [if_pos z', if_neg (by decide)]
        exact nx
      · rw [if_neg z] at nx
        have z' := z
        unfold rz_FP at z'
        rw [if_neg z', if_pos rfl]
        exact nx
  obtain ⟨υ2, e2, f2⟩ := loop nl 0 (by omega) υ f1 rfl
  exact ⟨υ2, by rw [e_117, e, ra_kV]; exact e2, f2⟩
theorem rz_m_fit {np nb nl nw nn : Nat} {len : Nat → Nat} {σ τ : ra_S} (hB : rz_base np nb nl nw len σ) (hn : rz_notes np nb nn σ) (hf : rz_ft σ τ) {p : Nat} (hp : p < np) {d : Int32} (hd : 0 ≤ d.toInt ∧ d.toInt ≤ 9999) : ∃ υ : ra_S, ra_C 226 [.ref 86, .int (nI p), .int d] τ = ra_I (rz_ib (rz_FP σ len np nw nn p d.toInt) 0 nl) υ ∧ rz_ft σ υ := by
  obtain ⟨-, c8, c9⟩ := hB.1.2.2.1
  have c3 := hB.1.1.2.2
  have nt := rz_notes_ft hn hf
  obtain ⟨υ, e, g1, g2, g3⟩ := rz_m_judge c3 hn nt (hf.1 60 (by omega)) (hf.2 48 (by decide))
  have f1 : rz_ft σ υ := rz_ft.of hf (fun c hc => g1 c (by omega))
  have m5 : (5 : Int32) * nI p = nI (5 * p) := pk_mul 5 p
  have ntl : ∀ υ3 : ra_S, rz_fl p (σ.1 101 p) σ υ3 → rz_notes np nb nn υ3 := fun υ3 f3 => rz_notes_eq (f3.1 56 (by omega)) (f3.1 57 (by omega)) (f3.1 58 (by omega)) (f3.1 59 (by omega)) (f3.1 60 (by omega)) (f3.2.1 47 (by decide)) (f3.2.1 48 (by decide)) (f3.1 106 (by omega)) (f3.1 107 (by omega)) (f3.1 108 (by omega)) hn
  have loop : ∀ m l, l + m = nl → ∀ υ1 : ra_S, rz_fl p (σ.1 101 p) σ υ1 → υ1.1 109 = υ.1 109 → ∃ υ2 : ra_S, ra_D (ra_lay, none, 99999, ra_m226) 19 [some (.ref 86), some (.int (nI p)), some (.int d), some (.int (σ.1 93 (5 * p))), some (.int (rz_ib (rz_FP σ len np nw nn p d.toInt) 0 l)), some (.int (nI l))] [] υ1 = ra_I (rz_ib (rz_FP σ len np nw nn p d.toInt) 0 nl) υ2 ∧ rz_ft σ υ2 := by
    intro m
    induction m with
    | zero =>
      intro l hl υ1 f2 h109
      have : l = nl := by omega
      subst this
      rw [e_226_19, f2.2.1 13 (by decide), c8, rz_inl (by omega) (by omega), m5, rz_ig (by omega) (by omega), nI_clamp (by omega)]
      have f3 := rz_fl_to0 f2
      exact ⟨_, rfl, f3⟩
    | succ m ih =>
      intro l hl υ1 f2 h109
      obtain ⟨υ3, e3, f3, k1, t3⟩ := rz_layL hB f2 hp (l := l) (by omega) (T := σ.1 101) (fun q hq j hj => by
        by_cases z : q = p
        · rw [if_pos z, z]
        · rw [if_neg z])
      have nx := ih (l + 1) (by omega) υ3 f3 (by rw [k1 109 (by omega) (by omega), h109])
      rw [rz_ib] at nx
      rw [e_226_19, f2.2.1 13 (by decide), c8, rz_il (by omega) (by omega), m5, rz_ig (by omega) (by omega), nI_clamp (by omega), e3, ra_kV, rz_m_near t3 (ntl υ3 f3) hn (f3.1 57 (by omega)) (f3.1 58 (by omega)) (f3.1 59 (by omega)) (f3.2.1 48 (by decide)) (fun i hi => by rw [k1 109 (by omega) (by omega), h109]; exact g3 i hi) hp hd, ra_kI, nI_1, Int32.or_zero]
      by_cases z : rz_FP σ len np nw nn p d.toInt l = true
      · rw [if_pos z] at nx
        have z' := z
        unfold rz_FP at z'
        rw [if_pos z', if_neg (by decide)]
        exact nx
      · rw [if_neg z] at nx
        have z' := z
        unfold rz_FP at z'
        rw [if_neg z', if_pos rfl]
        exact nx
  obtain ⟨υ2, e2, f2⟩ := loop nl 0 (by omega) υ (rz_fl_of f1) rfl
  refine ⟨υ2, ?_, f2⟩
  rw [e_226, e, ra_kV, m5, rz_ig (by omega) (by omega), nI_clamp (by omega), f1.1 93 (by omega)]
  exact e2
theorem rz_fits {σ : ra_S} (h : rz_R σ) (a d : Int32) : rz_OI 115 227 [.int a, .int d] σ := by
  obtain ⟨np, nb, nl, nw, len, nn, hB, hn⟩ := rz_base_n h
  have f0 := rz_ft.rf σ
  have f0' := f0.u2 (x := 0)
  have c3 := hB.1.1.2.2
  by_cases v1 : 0 ≤ a.toInt ∧ a.toInt < np
  · by_cases v2 : 0 ≤ d.toInt ∧ d.toInt ≤ 9999
    · obtain ⟨p, hp, rfl⟩ := rz_nat (by omega) v1
      obtain ⟨υ, e1, f1⟩ := rz_c_fit hB hn f0 hp v2
      obtain ⟨υ2, e2, f2⟩ := rz_m_fit hB hn (f1.u2 (x := 0)) hp v2
      refine ⟨rz_ib (rz_FP σ len np nw nn p d.toInt) 0 nl, υ, υ2, ?_, ?_, rz_R_ft f2 h⟩
      · rw [e_115, rz_kPc hB f0, ra_kI, rz_t v1, ra_c_isOff, ra_kI, rz_t v2, e1, ra_kI]
      · rw [e_227, rz_kPm hB f1.u2, ra_kI, rz_t v1, rz_m_in _ _ 0 9999 rfl rfl, ra_kI, rz_t v2, e2, ra_kI]
    · refine ⟨-1, σ, ra_ui σ 86 2 0, ?_, ?_, rz_R_ft f0' h⟩
      · rw [e_115, rz_kPc hB f0, ra_kI, rz_t v1, ra_c_isOff, ra_kI, rz_f v2]
      · rw [e_227, rz_kPm hB f0', ra_kI, rz_t v1, rz_m_in _ _ 0 9999 rfl rfl, ra_kI, rz_f v2]
  · refine ⟨-1, σ, ra_ui σ 86 2 0, ?_, ?_, rz_R_ft f0' h⟩
    · rw [e_115, rz_kPc hB f0, ra_kI, rz_f v1]
    · rw [e_227, rz_kPm hB f0', ra_kI, rz_f v1]
