-- ===== text: names, told for the first time or told before =====
theorem rz_findL {τ ψ : ra_S} {nl : Nat} (hn : nl ≤ 6) (h : ∀ l, l < nl → τ.1 31 l = ψ.1 90 (6 + l)) (x : Int32) : ∃ r : Int32, ra_C 137 [.ref 31, .int (nI nl), .int x] τ = ra_I r τ ∧ ra_C 158 [.ref 90, .int 6, .int (nI nl), .int x] ψ = ra_I r ψ ∧ ((∃ l, l < nl ∧ r = nI l ∧ τ.1 31 l = x) ∨ (r = -1 ∧ ∀ l, l < nl → τ.1 31 l ≠ x)) := by
  have loop : ∀ d i, i + d = nl → (∀ l, l < i → τ.1 31 l ≠ x) → ∃ r : Int32, ra_D (ra_lay, none, 99999, ra_m137) 2 [some (.ref 31), some (.int (nI nl)), some (.int x), some (.int (nI i))] [] τ = ra_I r τ ∧ ra_D (ra_lay, none, 99999, ra_m158) 3 [some (.ref 90), some (.int 6), some (.int (nI nl)), some (.int x), some (.int (nI i))] [] ψ = ra_I r ψ ∧ ((∃ l, l < nl ∧ r = nI l ∧ τ.1 31 l = x) ∨ (r = -1 ∧ ∀ l, l < nl → τ.1 31 l ≠ x)) := by
    intro d
    induction d with
    | zero =>
      intro i hi g
      have : i = nl := by omega
      subst this
      rw [e_137e_2, rz_inl (by omega) (by omega), e_158_3, rz_inl (by omega) (by omega)]
      exact ⟨_, rfl, rfl, Or.inr ⟨rfl, g⟩⟩
    | succ d ih =>
      intro i hi g
      rw [e_137e_2, rz_il (by omega) (by omega), if_pos (show nI i < (6 : Int32) from nI_lt (b := 6) (by omega) (by omega)), rz_ig (by omega) (by omega), nI_clamp (by omega), e_158_3, rz_il (by omega) (by omega), show (6 : Int32) + nI i = nI (6 + i) from nI_add 6 i, rz_ig (by omega) (by omega), nI_clamp (by omega), ← h i (by omega), nI_1]
      by_cases z : τ.1 31 i = x
      · rw [if_pos z, if_pos z]; exact ⟨_, rfl, rfl, Or.inl ⟨i, by omega, rfl, z⟩⟩
      · rw [if_neg z, if_neg z]
        exact ih (i + 1) (by omega) (fun l hl => by
          by_cases y : l = i
          · rw [y]; exact z
          · exact g l (by omega))
  obtain ⟨r, e1, e2, g⟩ := loop nl 0 (by omega) (fun l hl => by omega)
  exact ⟨r, by rw [e_137e]; exact e1, by rw [e_158]; exact e2, g⟩
theorem rz_newL {t : Nat → Nat} {N n : Nat} {k : Nat × Nat} {τ ψ : ra_S} (h : rz_J t N n k τ ψ) {nl : Nat} (hn : nl < 6) (hc : ∀ l, l < nl → τ.1 31 l = ψ.1 90 (6 + l)) :
    (∃ (υ φ : ra_S) (n' : Nat) (k' : Nat × Nat) (w : Int32), ra_C 35 [.ref 1, .ref 31, .int (nI nl)] τ = ra_I 1 υ ∧ ra_C 159 [.ref 86, .ref 90, .int 6, .int (nI nl)] ψ = ra_I 1 φ ∧ rz_J t N n' k' υ φ ∧ rz_aft n n' k' ∧ rz_fn (ra_ui τ 1 6 w) υ ∧ rz_fp (ra_ui ψ 90 (6 + nl) w) φ ∧ k.1 = 3) ∨
    rz_No (ra_C 35 [.ref 1, .ref 31, .int (nI nl)] τ) (ra_C 159 [.ref 86, .ref 90, .int 6, .int (nI nl)] ψ) τ ψ := by
  obtain ⟨c1, c2, c3, c4, c5⟩ := rz_Kc_kd h.2.2.1
  obtain ⟨m1, m2, m3, m4, m5, m6⟩ := rz_Km_kd h.2.2.2.1
  have b1 : rz_kc k = 3 ↔ k.1 = 3 := by unfold rz_kc; split <;> omega
  have b2 : rz_km k = 2 ↔ k.1 = 3 := by rcases rz_km_cases c1 with q | q | q | q | q | q | q <;> omega
  have kcl := rz_kc_lt h.2.2.1
  have kml : rz_km k < 100 := by rcases rz_km_cases c1 with q | q | q | q | q | q | q <;> omega
  rw [e_35b, c2, show (3 : Int32) = nI 3 from rfl, rz_lit (by omega) (by omega), e_159b, m1, show (2 : Int32) = nI 2 from rfl, rz_lit (by omega) (by omega)]
  by_cases z : k.1 = 3
  · rw [if_pos (b1.mpr z), if_pos (b2.mpr z), c5 z, m3 z]
    obtain ⟨r, e1, e2, hr⟩ := rz_findL (by omega) hc (nI k.2)
    rw [e1, ra_kI, e2, ra_kI]
    rcases hr with ⟨l, l1, rfl, -⟩ | ⟨rfl, -⟩
    · rw [if_neg (nI_nm1 (by omega)), if_neg (nI_pos (by omega)), rz_c_fail, ra_kI, rz_b01, e_145, ra_kI, rz_b01]
      exact Or.inr ⟨_, _, rfl, rfl, rz_fn_fail _ _ _, rz_fp_fail _ _ _, rz_Fl_of h _⟩
    · rw [if_pos rfl, if_pos (by decide), show (6 : Int32) + nI nl = nI (6 + nl) from nI_add 6 nl, rz_ig (by omega) (by omega), nI_clamp (by omega)]
      have J1 : rz_J t N n k (ra_ui τ 1 6 (nI k.2)) (ra_ui ψ 90 (6 + nl) (nI k.2)) := rz_J_m (rz_J_c h (fun c hc => ra_ui_1 c (by omega))) (fun j hj => by rw [ra_ui_1 86 (by decide)]) ⟨ra_ui_1 87 (by decide), ra_ui_1 88 (by decide)⟩
      obtain ⟨n', k', υ, φ, e3, e4, J2, aft, f1, f2⟩ := rz_stepJ J1
      rw [c5 z, m3 z, e3, ra_kV, e4, ra_kV]
      exact Or.inl ⟨υ, φ, n', k', nI k.2, rfl, rfl, J2, aft, f1.fn, f2.fp, z⟩
  · rw [if_neg (fun q => z (b1.mp q)), if_neg (fun q => z (b2.mp q)), rz_c_fail, ra_kI, rz_b01, e_145, ra_kI, rz_b01]
    exact Or.inr ⟨_, _, rfl, rfl, rz_fn_fail _ _ _, rz_fp_fail _ _ _, rz_Fl_of h _⟩
theorem rz_oldL {t : Nat → Nat} {N n : Nat} {k : Nat × Nat} {τ ψ : ra_S} (h : rz_J t N n k τ ψ) {nl : Nat} (hn : nl ≤ 6) (hc : ∀ l, l < nl → τ.1 31 l = ψ.1 90 (6 + l)) :
    (∃ (υ φ : ra_S) (n' : Nat) (k' : Nat × Nat) (l : Nat), ra_C 36 [.ref 1, .ref 31, .int (nI nl)] τ = ra_I 1 υ ∧ ra_C 160 [.ref 86, .ref 90, .int 6, .int (nI nl)] ψ = ra_I 1 φ ∧ rz_J t N n' k' υ φ ∧ rz_aft n n' k' ∧ rz_fn τ υ ∧ rz_fp ψ φ ∧ l < nl ∧ υ.1 1 5 = nI l ∧ φ.1 86 11 = nI l) ∨
    rz_No (ra_C 36 [.ref 1, .ref 31, .int (nI nl)] τ) (ra_C 160 [.ref 86, .ref 90, .int 6, .int (nI nl)] ψ) τ ψ := by
  obtain ⟨c1, c2, c3, c4, c5⟩ := rz_Kc_kd h.2.2.1
  obtain ⟨m1, m2, m3, m4, m5, m6⟩ := rz_Km_kd h.2.2.2.1
  have b1 : rz_kc k = 3 ↔ k.1 = 3 := by unfold rz_kc; split <;> omega
  have b2 : rz_km k = 2 ↔ k.1 = 3 := by rcases rz_km_cases c1 with q | q | q | q | q | q | q <;> omega
  have kcl := rz_kc_lt h.2.2.1
  have kml : rz_km k < 100 := by rcases rz_km_cases c1 with q | q | q | q | q | q | q <;> omega
  rw [e_36b, c2, show (3 : Int32) = nI 3 from rfl, rz_lit (by omega) (by omega), e_160b, m1, show (2 : Int32) = nI 2 from rfl, rz_lit (by omega) (by omega)]
  by_cases z : k.1 = 3
  · rw [if_pos (b1.mpr z), if_pos (b2.mpr z), c5 z, m3 z]
    obtain ⟨r, e1, e2, hr⟩ := rz_findL hn hc (nI k.2)
    rw [e1, ra_kI, e2, ra_kI]
    have J1 : rz_J t N n k (ra_ui τ 1 5 r) (ra_ui ψ 86 11 r) := rz_J_m (rz_J_c h (fun c hc => ra_ui_1 c (by omega))) (fun j hj => by rw [ra_ui_get, if_neg (fun q => by omega)]) ⟨ra_ui_1 87 (by decide), ra_ui_1 88 (by decide)⟩
    rcases hr with ⟨l, l1, rfl, -⟩ | ⟨rfl, -⟩
    · rw [if_neg (nI_nm1 (by omega)), if_neg (nI_pos (by omega))]
      obtain ⟨n', k', υ, φ, e3, e4, J2, aft, f1, f2⟩ := rz_stepJ J1
      rw [e3, ra_kV, e4, ra_kV]
      refine Or.inl ⟨υ, φ, n', k', l, rfl, rfl, J2, aft, (rz_fn_ui τ (by omega)).tr f1.fn, (rz_fp_ui ψ (by omega)).tr f2.fp, l1, ?_, ?_⟩
      · rw [f1.1 1 (by decide), ra_ui_get, if_pos ⟨rfl, rfl⟩]
      · rw [f2.2.1 11 (by omega), ra_ui_get, if_pos ⟨rfl, rfl⟩]
    · have J2 : rz_J t N n k τ (ra_ui ψ 86 11 (-1)) := rz_J_m h (fun j hj => by rw [ra_ui_get, if_neg (fun q => by omega)]) ⟨ra_ui_1 87 (by decide), ra_ui_1 88 (by decide)⟩
      rw [if_pos rfl, if_pos (by decide), rz_c_fail, ra_kI, rz_b01, e_145, ra_kI, rz_b01]
      exact Or.inr ⟨_, _, rfl, rfl, rz_fn_fail _ _ _, (rz_fp_ui ψ (by omega)).tr (rz_fp_fail _ _ _), rz_Fl_of J2 _⟩
  · rw [if_neg (fun q => z (b1.mp q)), if_neg (fun q => z (b2.mp q)), rz_c_fail, ra_kI, rz_b01, e_145, ra_kI, rz_b01]
    exact Or.inr ⟨_, _, rfl, rfl, rz_fn_fail _ _ _, rz_fp_fail _ _ _, rz_Fl_of h _⟩
theorem rz_findP {τ ψ : ra_S} {nl : Nat} (hn : nl ≤ 8) (h : ∀ l, l < nl → τ.1 36 l = ψ.1 92 (8 + l)) (x : Int32) : ∃ r : Int32, ra_C 137 [.ref 36, .int (nI nl), .int x] τ = ra_I r τ ∧ ra_C 158 [.ref 92, .int 8, .int (nI nl), .int x] ψ = ra_I r ψ ∧ ((∃ l, l < nl ∧ r = nI l ∧ τ.1 36 l = x) ∨ (r = -1 ∧ ∀ l, l < nl → τ.1 36 l ≠ x)) := by
  have loop : ∀ d i, i + d = nl → (∀ l, l < i → τ.1 36 l ≠ x) → ∃ r : Int32, ra_D (ra_lay, none, 99999, ra_m137) 2 [some (.ref 36), some (.int (nI nl)), some (.int x), some (.int (nI i))] [] τ = ra_I r τ ∧ ra_D (ra_lay, none, 99999, ra_m158) 3 [some (.ref 92), some (.int 8), some (.int (nI nl)), some (.int x), some (.int (nI i))] [] ψ = ra_I r ψ ∧ ((∃ l, l < nl ∧ r = nI l ∧ τ.1 36 l = x) ∨ (r = -1 ∧ ∀ l, l < nl → τ.1 36 l ≠ x)) := by
    intro d
    induction d with
    | zero =>
      intro i hi g
      have : i = nl := by omega
      subst this
      rw [e_137c_2, rz_inl (by omega) (by omega), e_158b_3, rz_inl (by omega) (by omega)]
      exact ⟨_, rfl, rfl, Or.inr ⟨rfl, g⟩⟩
    | succ d ih =>
      intro i hi g
      rw [e_137c_2, rz_il (by omega) (by omega), if_pos (show nI i < (8 : Int32) from nI_lt (b := 8) (by omega) (by omega)), rz_ig (by omega) (by omega), nI_clamp (by omega), e_158b_3, rz_il (by omega) (by omega), show (8 : Int32) + nI i = nI (8 + i) from nI_add 8 i, rz_ig (by omega) (by omega), nI_clamp (by omega), ← h i (by omega), nI_1]
      by_cases z : τ.1 36 i = x
      · rw [if_pos z, if_pos z]; exact ⟨_, rfl, rfl, Or.inl ⟨i, by omega, rfl, z⟩⟩
      · rw [if_neg z, if_neg z]
        exact ih (i + 1) (by omega) (fun l hl => by
          by_cases y : l = i
          · rw [y]; exact z
          · exact g l (by omega))
  obtain ⟨r, e1, e2, g⟩ := loop nl 0 (by omega) (fun l hl => by omega)
  exact ⟨r, by rw [e_137c]; exact e1, by rw [e_158b]; exact e2, g⟩
theorem rz_newP {t : Nat → Nat} {N n : Nat} {k : Nat × Nat} {τ ψ : ra_S} (h : rz_J t N n k τ ψ) {nl : Nat} (hn : nl < 8) (hc : ∀ l, l < nl → τ.1 36 l = ψ.1 92 (8 + l)) :
    (∃ (υ φ : ra_S) (n' : Nat) (k' : Nat × Nat) (w : Int32), ra_C 35 [.ref 1, .ref 36, .int (nI nl)] τ = ra_I 1 υ ∧ ra_C 159 [.ref 86, .ref 92, .int 8, .int (nI nl)] ψ = ra_I 1 φ ∧ rz_J t N n' k' υ φ ∧ rz_aft n n' k' ∧ rz_fn (ra_ui τ 1 6 w) υ ∧ rz_fp (ra_ui ψ 92 (8 + nl) w) φ ∧ k.1 = 3) ∨
    rz_No (ra_C 35 [.ref 1, .ref 36, .int (nI nl)] τ) (ra_C 159 [.ref 86, .ref 92, .int 8, .int (nI nl)] ψ) τ ψ := by
  obtain ⟨c1, c2, c3, c4, c5⟩ := rz_Kc_kd h.2.2.1
  obtain ⟨m1, m2, m3, m4, m5, m6⟩ := rz_Km_kd h.2.2.2.1
  have b1 : rz_kc k = 3 ↔ k.1 = 3 := by unfold rz_kc; split <;> omega
  have b2 : rz_km k = 2 ↔ k.1 = 3 := by rcases rz_km_cases c1 with q | q | q | q | q | q | q <;> omega
  have kcl := rz_kc_lt h.2.2.1
  have kml : rz_km k < 100 := by rcases rz_km_cases c1 with q | q | q | q | q | q | q <;> omega
  rw [e_35, c2, show (3 : Int32) = nI 3 from rfl, rz_lit (by omega) (by omega), e_159, m1, show (2 : Int32) = nI 2 from rfl, rz_lit (by omega) (by omega)]
  by_cases z : k.1 = 3
  · rw [if_pos (b1.mpr z), if_pos (b2.mpr z), c5 z, m3 z]
    obtain ⟨r, e1, e2, hr⟩ := rz_findP (by omega) hc (nI k.2)
    rw [e1, ra_kI, e2, ra_kI]
    rcases hr with ⟨l, l1, rfl, -⟩ | ⟨rfl, -⟩
    · rw [if_neg (nI_nm1 (by omega)), if_neg (nI_pos (by omega)), rz_c_fail, ra_kI, rz_b01, e_145, ra_kI, rz_b01]
      exact Or.inr ⟨_, _, rfl, rfl, rz_fn_fail _ _ _, rz_fp_fail _ _ _, rz_Fl_of h _⟩
    · rw [if_pos rfl, if_pos (by decide), show (8 : Int32) + nI nl = nI (8 + nl) from nI_add 8 nl, rz_ig (by omega) (by omega), nI_clamp (by omega)]
      have J1 : rz_J t N n k (ra_ui τ 1 6 (nI k.2)) (ra_ui ψ 92 (8 + nl) (nI k.2)) := rz_J_m (rz_J_c h (fun c hc => ra_ui_1 c (by omega))) (fun j hj => by rw [ra_ui_1 86 (by decide)]) ⟨ra_ui_1 87 (by decide), ra_ui_1 88 (by decide)⟩
      obtain ⟨n', k', υ, φ, e3, e4, J2, aft, f1, f2⟩ := rz_stepJ J1
      rw [c5 z, m3 z, e3, ra_kV, e4, ra_kV]
      exact Or.inl ⟨υ, φ, n', k', nI k.2, rfl, rfl, J2, aft, f1.fn, f2.fp, z⟩
  · rw [if_neg (fun q => z (b1.mp q)), if_neg (fun q => z (b2.mp q)), rz_c_fail, ra_kI, rz_b01, e_145, ra_kI, rz_b01]
    exact Or.inr ⟨_, _, rfl, rfl, rz_fn_fail _ _ _, rz_fp_fail _ _ _, rz_Fl_of h _⟩
theorem rz_oldP {t : Nat → Nat} {N n : Nat} {k : Nat × Nat} {τ ψ : ra_S} (h : rz_J t N n k τ ψ) {nl : Nat} (hn : nl ≤ 8) (hc : ∀ l, l < nl → τ.1 36 l = ψ.1 92 (8 + l)) :
    (∃ (υ φ : ra_S) (n' : Nat) (k' : Nat × Nat) (l : Nat), ra_C 36 [.ref 1, .ref 36, .int (nI nl)] τ = ra_I 1 υ ∧ ra_C 160 [.ref 86, .ref 92, .int 8, .int (nI nl)] ψ = ra_I 1 φ ∧ rz_J t N n' k' υ φ ∧ rz_aft n n' k' ∧ rz_fn τ υ ∧ rz_fp ψ φ ∧ l < nl ∧ υ.1 1 5 = nI l ∧ φ.1 86 11 = nI l) ∨
    rz_No (ra_C 36 [.ref 1, .ref 36, .int (nI nl)] τ) (ra_C 160 [.ref 86, .ref 92, .int 8, .int (nI nl)] ψ) τ ψ := by
  obtain ⟨c1, c2, c3, c4, c5⟩ := rz_Kc_kd h.2.2.1
  obtain ⟨m1, m2, m3, m4, m5, m6⟩ := rz_Km_kd h.2.2.2.1
  have b1 : rz_kc k = 3 ↔ k.1 = 3 := by unfold rz_kc; split <;> omega
  have b2 : rz_km k = 2 ↔ k.1 = 3 := by rcases rz_km_cases c1 with q | q | q | q | q | q | q <;> omega
  have kcl := rz_kc_lt h.2.2.1
  have kml : rz_km k < 100 := by rcases rz_km_cases c1 with q | q | q | q | q | q | q <;> omega
  rw [e_36, c2, show (3 : Int32) = nI 3 from rfl, rz_lit (by omega) (by omega), e_160, m1, show (2 : Int32) = nI 2 from rfl, rz_lit (by omega) (by omega)]
  by_cases z : k.1 = 3
  · rw [if_pos (b1.mpr z), if_pos (b2.mpr z), c5 z, m3 z]
    obtain ⟨r, e1, e2, hr⟩ := rz_findP hn hc (nI k.2)
    rw [e1, ra_kI, e2, ra_kI]
    have J1 : rz_J t N n k (ra_ui τ 1 5 r) (ra_ui ψ 86 11 r) := rz_J_m (rz_J_c h (fun c hc => ra_ui_1 c (by omega))) (fun j hj => by rw [ra_ui_get, if_neg (fun q => by omega)]) ⟨ra_ui_1 87 (by decide), ra_ui_1 88 (by decide)⟩
    rcases hr with ⟨l, l1, rfl, -⟩ | ⟨rfl, -⟩
    · rw [if_neg (nI_nm1 (by omega)), if_neg (nI_pos (by omega))]
      obtain ⟨n', k', υ, φ, e3, e4, J2, aft, f1, f2⟩ := rz_stepJ J1
      rw [e3, ra_kV, e4, ra_kV]
      refine Or.inl ⟨υ, φ, n', k', l, rfl, rfl, J2, aft, (rz_fn_ui τ (by omega)).tr f1.fn, (rz_fp_ui ψ (by omega)).tr f2.fp, l1, ?_, ?_⟩
      · rw [f1.1 1 (by decide), ra_ui_get, if_pos ⟨rfl, rfl⟩]
      · rw [f2.2.1 11 (by omega), ra_ui_get, if_pos ⟨rfl, rfl⟩]
    · have J2 : rz_J t N n k τ (ra_ui ψ 86 11 (-1)) := rz_J_m h (fun j hj => by rw [ra_ui_get, if_neg (fun q => by omega)]) ⟨ra_ui_1 87 (by decide), ra_ui_1 88 (by decide)⟩
      rw [if_pos rfl, if_pos (by decide), rz_c_fail, ra_kI, rz_b01, e_145, ra_kI, rz_b01]
      exact Or.inr ⟨_, _, rfl, rfl, rz_fn_fail _ _ _, (rz_fp_ui ψ (by omega)).tr (rz_fp_fail _ _ _), rz_Fl_of J2 _⟩
  · rw [if_neg (fun q => z (b1.mp q)), if_neg (fun q => z (b2.mp q)), rz_c_fail, ra_kI, rz_b01, e_145, ra_kI, rz_b01]
    exact Or.inr ⟨_, _, rfl, rfl, rz_fn_fail _ _ _, rz_fp_fail _ _ _, rz_Fl_of h _⟩
