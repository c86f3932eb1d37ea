-- ===== films: which notes count, which laws fit =====
/-- what a note strikes -/
def rz_st (σ : ra_S) (n : Nat) : Option Nat := if σ.1 60 n = -1 then none else some (σ.1 60 n).toNatClampNeg
/-- the notes that count, d of the last ones asked -/
def rz_cn (st : Nat → Option Nat) (kn : Nat) : Nat → Nat → Bool
  | 0 => fun _ => true
  | d + 1 => fun i => if rz_cn st kn d (kn - 1 - d) = true ∧ st (kn - 1 - d) = some i then false else rz_cn st kn d i
theorem rz_cn_s (st : Nat → Option Nat) (kn d i : Nat) : rz_cn st kn (d + 1) i = if rz_cn st kn d (kn - 1 - d) = true ∧ st (kn - 1 - d) = some i then false else rz_cn st kn d i := rfl
theorem rz_cn_n {st : Nat → Option Nat} {kn d k : Nat} (ix : kn - 1 - d = k) (h : st k = none) (i : Nat) : rz_cn st kn (d + 1) i = rz_cn st kn d i := by
  rw [rz_cn_s, ix, h, if_neg (fun y => by cases y.2)]
theorem rz_cn_f {st : Nat → Option Nat} {kn d k : Nat} (ix : kn - 1 - d = k) (h : ¬ rz_cn st kn d k = true) (i : Nat) : rz_cn st kn (d + 1) i = rz_cn st kn d i := by
  rw [rz_cn_s, ix, if_neg (fun y => h y.1)]
theorem rz_cn_t {st : Nat → Option Nat} {kn d k j : Nat} (ix : kn - 1 - d = k) (h : rz_cn st kn d k = true) (hs : st k = some j) (i : Nat) : rz_cn st kn (d + 1) i = if i = j then false else rz_cn st kn d i := by
  rw [rz_cn_s, ix, hs]
  by_cases y : i = j
  · subst y; rw [if_pos ⟨h, rfl⟩, if_pos rfl]
  · rw [if_neg y, if_neg (fun w => y (Option.some.inj w.2).symm)]
/-- how many are known -/
def rz_kn (σ : ra_S) (nn : Nat) : Nat := if σ.1 86 48 = -1 then nn else (σ.1 86 48).toNatClampNeg
theorem rz_kn_le {np nb nn : Nat} {σ : ra_S} (h : rz_notes np nb nn σ) : rz_kn σ nn ≤ nn ∧ (if σ.1 86 48 = -1 then nI nn else σ.1 86 48) = nI (rz_kn σ nn) := by
  obtain ⟨h1, h2, h3, h4, h5, -⟩ := h
  unfold rz_kn
  by_cases z : σ.1 86 48 = -1
  · rw [if_pos z, if_pos z]; exact ⟨Nat.le_refl _, rfl⟩
  · rw [if_neg z, if_neg z]
    have q : 0 ≤ (σ.1 86 48).toInt := by
      have := h5.1
      have ne : (σ.1 86 48).toInt ≠ -1 := fun y => z (Int32.toInt_inj.mp y)
      omega
    obtain ⟨j, hj, e⟩ := rz_nat' (x := σ.1 86 48) (n := nn) (by omega) ⟨q, h5.2⟩
    rw [e, nI_clamp (by omega)]
    exact ⟨hj, rfl⟩
theorem rz_notes_eq {np nb nn : Nat} {σ τ : ra_S} (h56 : τ.1 56 = σ.1 56) (h57 : τ.1 57 = σ.1 57) (h58 : τ.1 58 = σ.1 58) (h59 : τ.1 59 = σ.1 59) (h60 : τ.1 60 = σ.1 60) (h47 : τ.1 86 47 = σ.1 86 47) (h48 : τ.1 86 48 = σ.1 86 48) (h106 : τ.1 106 = σ.1 106) (h107 : τ.1 107 = σ.1 107) (h108 : τ.1 108 = σ.1 108) (h : rz_notes np nb nn σ) : rz_notes np nb nn τ := by
  unfold rz_notes at h ⊢
  rw [h56, h57, h58, h59, h60, h47, h48, h106, h107, h108]
  exact h
/-- the class judges -/
theorem rz_c_judge {np nb nn : Nat} {σ : ra_S} (h : rz_notes np nb nn σ) : ∃ υ : ra_S, ra_C 15 [.ref 56] σ = ra_V υ ∧ (∀ c, c ≠ 61 → υ.1 c = σ.1 c) ∧ υ.2 = σ.2 ∧ ∀ i, i < 40 → υ.1 61 i = if rz_cn (rz_st σ) (rz_kn σ nn) (rz_kn σ nn) i = true then 0 else 1 := by
  obtain ⟨kl, ke⟩ := rz_kn_le h
  obtain ⟨h1, h2, h3, h4, h5, h6⟩ := id h
  have l2 : ∀ d k, d + k = rz_kn σ nn → ∀ (τ : ra_S) (o2 : Option Value), (∀ c, c ≠ 61 → τ.1 c = σ.1 c) → τ.2 = σ.2 → (∀ i, i < 40 → τ.1 61 i = if rz_cn (rz_st σ) (rz_kn σ nn) d i = true then 0 else 1) → ∃ υ : ra_S, ra_D (ra_lay, none, 99999, ra_m15) 33 [some (.ref 56), some (.int (nI k - 1)), o2] [] τ = ra_V υ ∧ (∀ c, c ≠ 61 → υ.1 c = σ.1 c) ∧ υ.2 = σ.2 ∧ ∀ i, i < 40 → υ.1 61 i = if rz_cn (rz_st σ) (rz_kn σ nn) (rz_kn σ nn) i = true then 0 else 1 := by
    intro d k
    induction k generalizing d with
    | zero =>
      intro hd τ o2 t1 t2 t3
      have : d = rz_kn σ nn := by omega
      subst this
      rw [e_15_33, if_pos (by decide)]
      exact ⟨τ, rfl, t1, t2, t3⟩
    | succ k ih =>
      intro hd τ o2 t1 t2 t3
      have hk : k < nn := by omega
      have t60 := t1 60 (by decide)
      have sub : nI k + (-1 : Int32) = nI k - 1 := (Int32.sub_eq_add_neg _ _).symm
      have ix : rz_kn σ nn - 1 - d = k := by omega
      have nx := ih (d + 1) (by omega)
      rw [nI_pred, e_15_33, if_neg (nI_pos (by omega)), rz_ig (by omega) (by omega), rz_ig (by omega) (by omega), nI_clamp (by omega), t60, t3 k (by omega), sub]
      rcases h6 k hk with ⟨p, n, -, -, -, -, -, -, -, -, s60⟩ | ⟨j, hj, -, -, s60, -⟩
      · have sn : rz_st σ k = none := by unfold rz_st; rw [s60]; rfl
        have same : ∀ i, rz_cn (rz_st σ) (rz_kn σ nn) (d + 1) i = rz_cn (rz_st σ) (rz_kn σ nn) d i := rz_cn_n ix sn
        rw [s60, if_pos (show (-1 : Int32) < 0 by decide)]
        rw [ite_self]
        exact nx τ _ t1 t2 (fun i hi => by rw [same]; exact t3 i hi)
      · have sn : rz_st σ k = some j := by
          unfold rz_st
          rw [s60, if_neg, nI_clamp (by omega)]
          intro y
          have := congrArg Int32.toInt y
          rw [nI_toInt (by omega)] at this
          have q : ((-1 : Int32)).toInt = -1 := rfl
          omega
        rw [s60, if_neg (nI_pos (by omega)), show (40 : Int32) = nI 40 from rfl, rz_il (by omega) (by omega), rz_ig (by omega) (by omega), nI_clamp (by omega)]
        by_cases z : rz_cn (rz_st σ) (rz_kn σ nn) d k = true
        · rw [if_pos z, if_pos rfl]
          refine nx _ _ (fun c hc => by rw [ra_ui_1 c hc]; exact t1 c hc) t2 (fun i hi => ?_)
          rw [ra_ui_get, rz_cn_t ix z sn]
          by_cases y : i = j
          · rw [if_pos ⟨rfl, y⟩, if_pos y]; rfl
          · rw [if_neg (fun w => y w.2), if_neg y]; exact t3 i hi
        · rw [if_neg z, if_neg (by decide)]
          refine nx τ _ t1 t2 (fun i hi => ?_)
          rw [rz_cn_f ix z]; exact t3 i hi
  have l1 : ∀ d k, k + d = 40 → ∀ (τ : ra_S) (o2 : Option Value), (∀ c, c ≠ 61 → τ.1 c = σ.1 c) → τ.2 = σ.2 → (∀ i, i < k → τ.1 61 i = 0) → ∃ υ : ra_S, ra_D (ra_lay, none, 99999, ra_m15) 2 [some (.ref 56), some (.int (nI k)), o2] [] τ = ra_V υ ∧ (∀ c, c ≠ 61 → υ.1 c = σ.1 c) ∧ υ.2 = σ.2 ∧ ∀ i, i < 40 → υ.1 61 i = if rz_cn (rz_st σ) (rz_kn σ nn) (rz_kn σ nn) i = true then 0 else 1 := by
    intro d
    induction d with
    | zero =>
      intro k hk τ o2 t1 t2 t3
      have : k = 40 := by omega
      subst this
      have nt : rz_notes np nb nn τ := rz_notes_eq (t1 56 (by decide)) (t1 57 (by decide)) (t1 58 (by decide)) (t1 59 (by decide)) (t1 60 (by decide)) (by rw [t1 86 (by decide)]) (by rw [t1 86 (by decide)]) (t1 106 (by decide)) (t1 107 (by decide)) (t1 108 (by decide)) h
      rw [e_15_2, if_neg (by decide), (rz_known_eq nt).1, ra_kI, t1 86 (by decide), ke, rz_mid47, ra_kI, show (40 : Int32) = nI 40 from rfl, rz_inl (by omega) (by omega)]
      exact l2 0 (rz_kn σ nn) (by omega) τ _ t1 t2 (fun i hi => by rw [t3 i hi]; rfl)
    | succ d ih =>
      intro k hk τ o2 t1 t2 t3
      rw [e_15_2, show (40 : Int32) = nI 40 from rfl, rz_il (by omega) (by omega), rz_ig (by omega) (by omega), nI_clamp (by omega), nI_1]
      refine ih (k + 1) (by omega) (ra_ui τ 61 k 0) o2 (fun c hc => by rw [ra_ui_1 c hc]; exact t1 c hc) t2 (fun i hi => ?_)
      rw [ra_ui_get]
      by_cases y : i = k
      · rw [if_pos ⟨rfl, y⟩]
      · rw [if_neg (fun w => y w.2)]; exact t3 i (by omega)
  obtain ⟨υ, e, g⟩ := l1 40 0 (by omega) σ none (fun _ _ => rfl) rfl (fun i hi => by omega)
  exact ⟨υ, by rw [e_15]; exact e, g⟩
/-- the reference counts; σ: the store whose notes these are -/
theorem rz_m_judge {np nb nn : Nat} {σ τ0 : ra_S} (hnp : np ≤ 8) (h : rz_notes np nb nn σ) (h0 : rz_notes np nb nn τ0) (e60 : τ0.1 60 = σ.1 60) (e48 : τ0.1 86 48 = σ.1 86 48) : ∃ υ : ra_S, ra_C 224 [.ref 86] τ0 = ra_V υ ∧ (∀ c, c ≠ 109 → υ.1 c = τ0.1 c) ∧ υ.2 = τ0.2 ∧ ∀ i, i < rz_kn σ nn → υ.1 109 i = if rz_cn (rz_st σ) (rz_kn σ nn) (rz_kn σ nn) i = true then 1 else 0 := by
  obtain ⟨kl, ke⟩ := rz_kn_le h
  obtain ⟨h1, h2, h3, h4, h5, h6⟩ := id h0
  have nt : ∀ τ : ra_S, (∀ c, c ≠ 109 → τ.1 c = τ0.1 c) → ra_C 223 [.ref 86] τ = ra_I (nI (rz_kn σ nn)) τ := fun τ t1 => by
    have nt : rz_notes np nb nn τ := rz_notes_eq (t1 56 (by decide)) (t1 57 (by decide)) (t1 58 (by decide)) (t1 59 (by decide)) (t1 60 (by decide)) (by rw [t1 86 (by decide)]) (by rw [t1 86 (by decide)]) (t1 106 (by decide)) (t1 107 (by decide)) (t1 108 (by decide)) h0
    rw [(rz_known_eq nt).2, t1 86 (by decide), e48, ke]
  have l2 : ∀ d k, d + k = rz_kn σ nn → ∀ τ : ra_S, (∀ c, c ≠ 109 → τ.1 c = τ0.1 c) → τ.2 = τ0.2 → (∀ i, i < rz_kn σ nn → τ.1 109 i = if rz_cn (rz_st σ) (rz_kn σ nn) d i = true then 1 else 0) → ∃ υ : ra_S, ra_D (ra_lay, none, 99999, ra_m224) 30 [some (.ref 86), some (.int (nI k - 1))] [] τ = ra_V υ ∧ (∀ c, c ≠ 109 → υ.1 c = τ0.1 c) ∧ υ.2 = τ0.2 ∧ ∀ i, i < rz_kn σ nn → υ.1 109 i = if rz_cn (rz_st σ) (rz_kn σ nn) (rz_kn σ nn) i = true then 1 else 0 := by
    intro d k
    induction k generalizing d with
    | zero =>
      intro hd τ t1 t2 t3
      have : d = rz_kn σ nn := by omega
      subst this
      rw [e_224_30, if_pos (by decide)]
      exact ⟨τ, rfl, t1, t2, t3⟩
    | succ k ih =>
      intro hd τ t1 t2 t3
      have hk : k < nn := by omega
      have sub : nI k + (-1 : Int32) = nI k - 1 := (Int32.sub_eq_add_neg _ _).symm
      have ix : rz_kn σ nn - 1 - d = k := by omega
      have nx := ih (d + 1) (by omega)
      rw [nI_pred, e_224_30, if_neg (nI_pos (by omega)), rz_ig (by omega) (by omega), rz_ig (by omega) (by omega), rz_ig (by omega) (by omega), nI_clamp (by omega), t1 106 (by decide), t1 107 (by decide), t3 k (by omega), sub]
      rcases h6 k hk with ⟨p, n, hp, -, -, s106, -, -, -, -, s60⟩ | ⟨j, hj, -, s106, s60, s107⟩
      · have sn : rz_st σ k = none := by unfold rz_st; rw [← e60, s60]; rfl
        have same : ∀ i, rz_cn (rz_st σ) (rz_kn σ nn) (d + 1) i = rz_cn (rz_st σ) (rz_kn σ nn) d i := rz_cn_n ix sn
        rw [s106, if_neg (nI_pos (by omega))]
        exact nx τ t1 t2 (fun i hi => by rw [same]; exact t3 i hi)
      · have sn : rz_st σ k = some j := by
          unfold rz_st
          rw [← e60, s60, if_neg, nI_clamp (by omega)]
          intro y
          have := congrArg Int32.toInt y
          rw [nI_toInt (by omega)] at this
          have q : ((-1 : Int32)).toInt = -1 := rfl
          omega
        rw [s106, if_pos (show (-1 : Int32) < 0 by decide), s107, rz_ig (by omega) (by omega), nI_clamp (by omega)]
        by_cases z : rz_cn (rz_st σ) (rz_kn σ nn) d k = true
        · rw [if_pos z, if_neg (by decide)]
          refine nx _ (fun c hc => by rw [ra_ui_1 c hc]; exact t1 c hc) t2 (fun i hi => ?_)
          rw [ra_ui_get, rz_cn_t ix z sn]
          by_cases y : i = j
          · rw [if_pos ⟨rfl, y⟩, if_pos y]; rfl
          · rw [if_neg (fun w => y w.2), if_neg y]; exact t3 i hi
        · rw [if_neg z, if_pos rfl]
          refine nx τ t1 t2 (fun i hi => ?_)
          rw [rz_cn_f ix z]; exact t3 i hi
  have l1 : ∀ d k, k + d = rz_kn σ nn → ∀ τ : ra_S, (∀ c, c ≠ 109 → τ.1 c = τ0.1 c) → τ.2 = τ0.2 → (∀ i, i < k → τ.1 109 i = 1) → ∃ υ : ra_S, ra_D (ra_lay, none, 99999, ra_m224) 2 [some (.ref 86), some (.int (nI k))] [] τ = ra_V υ ∧ (∀ c, c ≠ 109 → υ.1 c = τ0.1 c) ∧ υ.2 = τ0.2 ∧ ∀ i, i < rz_kn σ nn → υ.1 109 i = if rz_cn (rz_st σ) (rz_kn σ nn) (rz_kn σ nn) i = true then 1 else 0 := by
    intro d
    induction d with
    | zero =>
      intro k hk τ t1 t2 t3
      have : k = rz_kn σ nn := by omega
      rw [e_224_2, nt τ t1, ra_kI, rz_inl (by omega) (by omega), nt τ t1, ra_kI]
      exact l2 0 (rz_kn σ nn) (by omega) τ t1 t2 (fun i hi => by rw [t3 i (by omega)]; rfl)
    | succ d ih =>
      intro k hk τ t1 t2 t3
      rw [e_224_2, nt τ t1, ra_kI, rz_il (by omega) (by omega), rz_ig (by omega) (by omega), nI_clamp (by omega), nI_1]
      refine ih (k + 1) (by omega) (ra_ui τ 109 k 1) (fun c hc => by rw [ra_ui_1 c hc]; exact t1 c hc) t2 (fun i hi => ?_)
      rw [ra_ui_get]
      by_cases y : i = k
      · rw [if_pos ⟨rfl, y⟩]
      · rw [if_neg (fun w => y w.2)]; exact t3 i (by omega)
  obtain ⟨υ, e, g⟩ := l1 (rz_kn σ nn) 0 (by omega) τ0 (fun _ _ => rfl) rfl (fun i hi => by omega)
  exact ⟨υ, by rw [e_224]; exact e, g⟩
