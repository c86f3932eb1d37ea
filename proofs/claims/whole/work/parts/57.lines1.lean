-- ===== text: signed numbers; what was read so far =====
theorem rz_aft.tr {a b c : Nat} {k l : Nat × Nat} (h : rz_aft a b k) (g : rz_aft b c l) : rz_aft a c l := ⟨Nat.le_trans h.1 g.1, fun q => Nat.lt_of_le_of_lt h.1 (g.2 q)⟩
theorem rz_nIneg {m : Nat} (h : m < 2147483648) : (-(nI m)).toInt = -(m : Int) := by
  rw [rz_nIo, ← Int32.ofInt_neg, rz_oI (by omega) (by omega)]
section RZSG
variable {t : Nat → Nat} {N n : Nat} {k : Nat × Nat} {τ ψ : ra_S}
theorem rz_sg2 (h : rz_J t N n k τ ψ) {lo : Int32} {hi : Nat} (hh : hi ≤ 9999) (hl : lo.toInt = -(hi : Int)) (s : Int32) (hs : s = 0 ∨ s = 1) :
    (∃ (υ φ : ra_S) (n' : Nat) (k' : Nat × Nat), ra_D (ra_lay, none, 99999, ra_m37) 32 [some (.ref 1), some (.int lo), some (.int (nI hi)), some (.int s)] [] τ = ra_I 1 υ ∧ ra_D (ra_lay, none, 99999, ra_m154) 15 [some (.ref 86), some (.int (nI hi)), some (.int s)] [] ψ = ra_I 1 φ ∧ rz_J t N n' k' υ φ ∧ rz_aft n n' k' ∧ rz_fn τ υ ∧ rz_fp ψ φ ∧ υ.1 1 5 = φ.1 86 11 ∧ rz_in (φ.1 86 11) (-(hi : Int)) hi) ∨
    rz_No (ra_D (ra_lay, none, 99999, ra_m37) 32 [some (.ref 1), some (.int lo), some (.int (nI hi)), some (.int s)] [] τ) (ra_D (ra_lay, none, 99999, ra_m154) 15 [some (.ref 86), some (.int (nI hi)), some (.int s)] [] ψ) τ ψ := by
  obtain ⟨c1, c2, c3, c4, c5⟩ := rz_Kc_kd h.2.2.1
  obtain ⟨m1, m2, m3, m4, m5, m6⟩ := rz_Km_kd h.2.2.2.1
  have b1 : rz_kc k = 2 ↔ k.1 = 2 := by unfold rz_kc; split <;> omega
  have b2 : rz_km k = 3 ↔ k.1 = 2 := by rcases rz_km_cases c1 with q | q | q | q | q | q | q <;> omega
  have kcl : rz_kc k < 100 := by
    unfold rz_kc
    split
    · have := rz_wc_lt ⟨k.2, c3 (by assumption)⟩
      dsimp only at this
      omega
    · omega
  have kml : rz_km k < 100 := by rcases rz_km_cases c1 with q | q | q | q | q | q | q <;> omega
  rw [e_37_32, c2, show (2 : Int32) = nI 2 from rfl, rz_lit (by omega) (by omega), e_37_72, e_37_72, e_154_15, e_153, m1, show (3 : Int32) = nI 3 from rfl, rz_lit (by omega) (by omega)]
  by_cases z : k.1 = 2
  · have cq := c4 z
    have mq := m2 z
    rw [if_pos (b1.mpr z), if_pos (b2.mpr z), rz_m_in _ _ 0 hi rfl (nI_toInt (by omega)), ra_kI, rz_c_in _ _ (-(hi : Int)) hi hl (nI_toInt (by omega)), rz_c_in _ _ (-(hi : Int)) hi hl (nI_toInt (by omega)), ra_kI, ra_kI]
    by_cases y : k.2 < 10000 ∧ k.2 ≤ hi
    · obtain ⟨y1, y2⟩ := y
      have cv : τ.1 2 7 = nI k.2 := by
        rcases cq with q | q
        · exact q.2
        · omega
      have mv : ψ.1 86 9 = nI k.2 := by
        rcases mq with q | q
        · exact q.2
        · omega
      have r0 : (0 : Int) ≤ (nI k.2).toInt ∧ (nI k.2).toInt ≤ (hi : Int) := by rw [nI_toInt (by omega)]; omega
      have r1 : -(hi : Int) ≤ (nI k.2).toInt ∧ (nI k.2).toInt ≤ (hi : Int) := by rw [nI_toInt (by omega)]; omega
      have r2 : -(hi : Int) ≤ (-(nI k.2)).toInt ∧ (-(nI k.2)).toInt ≤ (hi : Int) := by rw [rz_nIneg (by omega)]; omega
      rw [cv, mv, rz_t r0, rz_t r1, rz_t r2]
      have go : ∀ x : Int32, ∃ (n' : Nat) (k' : Nat × Nat) (υ φ : ra_S), ra_C 74 [.ref 2] (ra_ui τ 1 5 x) = ra_V υ ∧ ra_C 149 [.ref 86] (ra_ui ψ 86 11 (nI k.2)) = ra_V φ ∧ rz_J t N n' k' υ (ra_ui φ 86 11 x) ∧ rz_aft n n' k' ∧ rz_fn τ υ ∧ rz_fp ψ (ra_ui φ 86 11 x) ∧ υ.1 1 5 = x ∧ φ.1 86 11 = nI k.2 := by
        intro x
        have J1 : rz_J t N n k (ra_ui τ 1 5 x) (ra_ui ψ 86 11 (nI k.2)) := rz_J_m (rz_J_c h (fun c hc => ra_ui_1 c (by omega))) (fun j hj => by rw [ra_ui_get, if_neg (fun q => by omega)]) ⟨ra_ui_1 87 (by decide), ra_ui_1 88 (by decide)⟩
        obtain ⟨n', k', υ, φ, e1, e2, J2, aft, f1, f2⟩ := rz_stepJ J1
        refine ⟨n', k', υ, φ, e1, e2, rz_J_m J2 (fun j hj => by rw [ra_ui_get, if_neg (fun q => by omega)]) ⟨ra_ui_1 87 (by decide), ra_ui_1 88 (by decide)⟩, aft, (rz_fn_ui τ (by omega)).tr f1.fn, ((rz_fp_ui ψ (by omega)).tr f2.fp).tr (rz_fp_ui _ (by omega)), ?_, ?_⟩
        · rw [f1.1 1 (by decide), ra_ui_get, if_pos ⟨rfl, rfl⟩]
        · rw [f2.2.1 11 (by omega), ra_ui_get, if_pos ⟨rfl, rfl⟩]
      rcases hs with rfl | rfl
      · obtain ⟨n', k', υ, φ, e1, e2, J2, aft, f1, f2, g1, g2⟩ := go (nI k.2)
        rw [if_pos rfl, e1, ra_kV, e2, ra_kV, ra_kI, if_neg (by decide), if_pos rfl, g2]
        exact Or.inl ⟨υ, _, n', k', rfl, rfl, J2, aft, f1, f2, by rw [g1, ra_ui_get, if_pos ⟨rfl, rfl⟩], by rw [ra_ui_get, if_pos ⟨rfl, rfl⟩]; exact r1⟩
      · obtain ⟨n', k', υ, φ, e1, e2, J2, aft, f1, f2, g1, g2⟩ := go (-(nI k.2))
        rw [if_neg (by decide), e1, ra_kV, e2, ra_kV, ra_kI, if_neg (by decide), if_neg (by decide), g2]
        exact Or.inl ⟨υ, _, n', k', rfl, rfl, J2, aft, f1, f2, by rw [g1, ra_ui_get, if_pos ⟨rfl, rfl⟩], by rw [ra_ui_get, if_pos ⟨rfl, rfl⟩]; exact r2⟩
    · have nc : ∃ m : Nat, τ.1 2 7 = nI m ∧ hi < m ∧ m ≤ 1000000 := by
        rcases cq with ⟨q1, q2⟩ | ⟨q1, m, q2, q3, q4⟩
        · exact ⟨k.2, q2, by omega, by omega⟩
        · exact ⟨m, q2, by omega, q4⟩
      have nm : ¬ ((0 : Int) ≤ (ψ.1 86 9).toInt ∧ (ψ.1 86 9).toInt ≤ (hi : Int)) := by
        rcases mq with ⟨q1, q2⟩ | ⟨q1, m, q2, q3, q4⟩
        · rw [q2, nI_toInt (by omega)]; omega
        · rw [q2, nI_toInt (by omega)]; omega
      obtain ⟨m, n1, n2, n3⟩ := nc
      have a1 : ¬ (-(hi : Int) ≤ (nI m).toInt ∧ (nI m).toInt ≤ (hi : Int)) := by rw [nI_toInt (by omega)]; omega
      have a2 : ¬ (-(hi : Int) ≤ (-(nI m)).toInt ∧ (-(nI m)).toInt ≤ (hi : Int)) := by rw [rz_nIneg (by omega)]; omega
      rw [n1, rz_f a1, rz_f a2, rz_f nm, e_145, ra_kI, rz_b01, ra_kI, if_pos rfl, rz_c_fail, rz_c_fail, ra_kI, ra_kI, rz_b01, rz_b01]
      have J1 : ∀ x : Int32, rz_J t N n k (ra_ui τ 1 5 x) ψ := fun x => rz_J_c h (fun c hc => ra_ui_1 c (by omega))
      rcases hs with rfl | rfl
      · rw [if_pos rfl]
        exact Or.inr ⟨_, _, rfl, rfl, (rz_fn_ui τ (by omega)).tr (rz_fn_fail _ _ _), rz_fp_fail _ _ _, rz_Fl_of (J1 _) _⟩
      · rw [if_neg (by decide)]
        exact Or.inr ⟨_, _, rfl, rfl, (rz_fn_ui τ (by omega)).tr (rz_fn_fail _ _ _), rz_fp_fail _ _ _, rz_Fl_of (J1 _) _⟩
  · rw [if_neg (fun q => z (b1.mp q)), if_neg (fun q => z (b2.mp q)), rz_c_fail, ra_kI, rz_b01, e_145, ra_kI, rz_b01, ra_kI, if_pos rfl]
    exact Or.inr ⟨_, _, rfl, rfl, rz_fn_fail _ _ _, rz_fp_fail _ _ _, rz_Fl_of h _⟩
theorem rz_sgn (h : rz_J t N n k τ ψ) {lo : Int32} {hi : Nat} (hh : hi ≤ 9999) (h0 : 0 < hi) (hl : lo.toInt = -(hi : Int)) :
    (∃ (υ φ : ra_S) (n' : Nat) (k' : Nat × Nat), ra_C 37 [.ref 1, .int lo, .int (nI hi)] τ = ra_I 1 υ ∧ ra_C 154 [.ref 86, .int (nI hi)] ψ = ra_I 1 φ ∧ rz_J t N n' k' υ φ ∧ rz_aft n n' k' ∧ rz_fn τ υ ∧ rz_fp ψ φ ∧ υ.1 1 5 = φ.1 86 11 ∧ rz_in (φ.1 86 11) (-(hi : Int)) hi) ∨
    rz_No (ra_C 37 [.ref 1, .int lo, .int (nI hi)] τ) (ra_C 154 [.ref 86, .int (nI hi)] ψ) τ ψ := by
  obtain ⟨c1, c2, c3, c4, c5⟩ := rz_Kc_kd h.2.2.1
  obtain ⟨m1, m2, m3, m4, m5, m6⟩ := rz_Km_kd h.2.2.2.1
  have b1 : rz_kc k = 4 ↔ k.1 = 4 := by unfold rz_kc; split <;> omega
  have kcl : rz_kc k < 100 := by
    unfold rz_kc
    split
    · have := rz_wc_lt ⟨k.2, c3 (by assumption)⟩
      dsimp only at this
      omega
    · omega
  have kml : rz_km k < 100 := by rcases rz_km_cases c1 with q | q | q | q | q | q | q <;> omega
  have neg : lo < (0 : Int32) := by rw [Int32.lt_iff_toInt_lt, hl]; show -(hi : Int) < 0; omega
  have sg : ra_C 152 [.ref 86, .int 45] ψ = ra_I (if k.1 = 4 then 1 else 0) ψ := by
    rw [e_152, m1, show (4 : Int32) = nI 4 from rfl, rz_lit (by omega) (by omega)]
    by_cases z : k.1 = 4
    · have b2 : rz_km k = 4 := by rcases rz_km_cases c1 with q | q | q | q | q | q | q <;> omega
      rw [if_pos b2, m4 z, if_pos (show nI 45 = (45 : Int32) from rfl), if_pos z]
    · by_cases y : k.1 = 5
      · have b2 : rz_km k = 4 := by rcases rz_km_cases c1 with q | q | q | q | q | q | q <;> omega
        rw [if_pos b2, m5 y, if_neg (by decide), if_neg z]
      · have b2 : ¬ rz_km k = 4 := by rcases rz_km_cases c1 with q | q | q | q | q | q | q <;> omega
        rw [if_neg b2, if_neg z]
  rw [e_37, if_pos neg, e_37_19, e_37_20, e_37_20, if_neg (show ¬ (1 : Int32) = 0 by decide), if_pos (show (0 : Int32) = 0 from rfl), c2, show (4 : Int32) = nI 4 from rfl, rz_lit (by omega) (by omega), e_154, sg, ra_kI]
  by_cases z : k.1 = 4
  · rw [if_pos (b1.mpr z), if_pos z, if_neg (by decide)]
    obtain ⟨n1, k1, υ1, φ1, e1, e2, J1, aft, f1, f2⟩ := rz_stepJ h
    rw [e1, ra_kV, e2, ra_kV]
    rcases rz_sg2 J1 hh hl 1 (Or.inr rfl) with ⟨υ, φ, n', k', a1, a2, a3, a4, a5, a6, a7, a8⟩ | ⟨υ, φ, a1, a2, a3, a4, a5⟩
    · exact Or.inl ⟨υ, φ, n', k', a1, a2, a3, aft.tr a4, f1.fn.tr a5, f2.fp.tr a6, a7, a8⟩
    · exact Or.inr ⟨υ, φ, a1, a2, f1.fn.tr a3, f2.fp.tr a4, a5⟩
  · rw [if_neg (fun q => z (b1.mp q)), if_neg z, if_pos rfl]
    exact rz_sg2 h hh hl 0 (Or.inl rfl)
end RZSG
/-- what was read, class against reference -/
def rz_Qs (c2 c3 c4 m24 m22 m23 : Int32) : Prop := c3 = m22 ∧ c4 = m23 ∧ c2 = m24 ∧ (m24 = 0 ∨ m24 = 1)
def rz_Qb (n nb : Nat) (c5 m18 : Int32) (a44 m89 : Nat → Int32) : Prop := c5 = nI nb ∧ m18 = nI nb ∧ nb ≤ 40 ∧ ∃ len : Nat → Nat, (∀ k, k < nb → m89 (40 + k) = nI (len k)) ∧ (∀ j, j ≤ nb → a44 j = nI (rz_sum len j)) ∧ rz_sum len nb ≤ 4000 * nb + 9999 * n
def rz_Ql (nl : Nat) (c m19 : Int32) (a31 a32 a33 a34 m90 m91 : Nat → Int32) : Prop := c = nI nl ∧ m19 = nI nl ∧ nl ≤ 6 ∧ ∀ l, l < nl → a31 l = m90 (6 + l) ∧ (∀ w, w < 4 → a32 (4 * l + w) = m91 (36 + 6 * l + w) ∧ rz_in (m91 (36 + 6 * l + w)) 0 9) ∧ (a33 l = m91 (36 + 6 * l + 4) ∧ rz_in (m91 (36 + 6 * l + 4)) (-500) 500) ∧ a34 l = m91 (36 + 6 * l + 5) ∧ (m91 (36 + 6 * l + 5) = 0 ∨ m91 (36 + 6 * l + 5) = 1)
def rz_Qp (np nl : Nat) (c m20 : Int32) (a36 a37 a38 a39 a40 a41 a42 a43 m92 m93 : Nat → Int32) : Prop := c = nI np ∧ m20 = nI np ∧ np ≤ 8 ∧ ∀ p, p < np → a36 p = m92 (8 + p) ∧ (∃ l, l < nl ∧ a37 p = nI l ∧ m93 (40 + 5 * p) = nI l) ∧ (a38 p = m93 (40 + 5 * p + 1) ∧ rz_in (m93 (40 + 5 * p + 1)) 0 30) ∧ (a39 p = m93 (40 + 5 * p + 2) ∧ rz_in (m93 (40 + 5 * p + 2)) 0 30) ∧ (a40 p = m93 (40 + 5 * p + 3) ∧ rz_in (m93 (40 + 5 * p + 3)) 0 300) ∧ (a41 p = m93 (40 + 5 * p + 4) ∧ rz_in (m93 (40 + 5 * p + 4)) 0 99) ∧ a42 p = 0 ∧ a43 p = 0
def rz_Qw (nw np : Nat) (c7 m21 : Int32) (a45 a46 a47 m96 : Nat → Int32) : Prop := c7 = nI nw ∧ m21 = nI nw ∧ nw ≤ 6 ∧ ∀ w, w < nw → (∃ p, p < np ∧ a45 w = nI p ∧ m96 (21 + 3 * w) = nI p) ∧ (∃ j, j < 40 ∧ a46 w = nI j ∧ m96 (21 + 3 * w + 1) = nI j) ∧ a47 w = m96 (21 + 3 * w + 2) ∧ rz_in (m96 (21 + 3 * w + 2)) (-2000) 2000
/-- who sees or hears whom, by names: one row with the class (player, 0 sees or 1 hears, name, place), rows of up to four with the reference -/
def rz_sub (Lk : List (Nat × Nat × Nat × Nat)) (p kd : Nat) : List (Nat × Nat × Nat × Nat) := Lk.filter (fun x => x.1 == p && x.2.1 == kd)
def rz_Qk (n np : Nat) (c0 : Int32) (a6 a7 a8 a9 m97 m98 m99 m100 : Nat → Int32) : Prop := ∃ Lk : List (Nat × Nat × Nat × Nat), c0 = nI Lk.length ∧ Lk.length ≤ 8 * np ∧
  (∀ i x, Lk[i]? = some x → a6 i = nI x.1 ∧ a7 i = nI (13 + x.2.1) ∧ a8 i = nI x.2.2.1 ∧ a9 i = nI x.2.2.2 ∧ x.1 < np ∧ x.2.1 < 2 ∧ x.2.2.1 < 1073741824 ∧ x.2.2.2 < n) ∧
  Lk.Pairwise (fun x y => x.2.2.2 < y.2.2.2) ∧
  ∀ p, p < np → ((rz_sub Lk p 0).length ≤ 4 ∧ m99 p = nI (rz_sub Lk p 0).length) ∧ ((rz_sub Lk p 1).length ≤ 4 ∧ m100 p = nI (rz_sub Lk p 1).length) ∧
    ∀ kd, kd < 2 → ∀ i x, (rz_sub Lk p kd)[i]? = some x → m97 (8 * p + 4 * kd + i) = nI x.2.2.1 ∧ m98 (8 * p + 4 * kd + i) = nI x.2.2.2
def rz_Q (n : Nat) (τ ψ : ra_S) : Prop := ∃ nb nl np nw : Nat, rz_Qs (τ.1 29 2) (τ.1 29 3) (τ.1 29 4) (ψ.1 86 24) (ψ.1 86 22) (ψ.1 86 23) ∧ rz_Qb n nb (τ.1 29 5) (ψ.1 86 18) (τ.1 44) (ψ.1 89) ∧ rz_Ql nl (τ.1 30 0) (ψ.1 86 19) (τ.1 31) (τ.1 32) (τ.1 33) (τ.1 34) (ψ.1 90) (ψ.1 91) ∧ rz_Qp np nl (τ.1 35 0) (ψ.1 86 20) (τ.1 36) (τ.1 37) (τ.1 38) (τ.1 39) (τ.1 40) (τ.1 41) (τ.1 42) (τ.1 43) (ψ.1 92) (ψ.1 93) ∧ rz_Qw nw np (τ.1 29 7) (ψ.1 86 21) (τ.1 45) (τ.1 46) (τ.1 47) (ψ.1 96) ∧ rz_Qk n np (τ.1 5 0) (τ.1 6) (τ.1 7) (τ.1 8) (τ.1 9) (ψ.1 97) (ψ.1 98) (ψ.1 99) (ψ.1 100)
theorem rz_Qb_mono {n n' nb : Nat} {c5 m18 : Int32} {a44 m89 : Nat → Int32} (h : rz_Qb n nb c5 m18 a44 m89) (hn : n ≤ n') : rz_Qb n' nb c5 m18 a44 m89 := by
  obtain ⟨h1, h2, h3, len, h4, h5, h6⟩ := h
  exact ⟨h1, h2, h3, len, h4, h5, by omega⟩
theorem rz_Qk_mono {n n' np : Nat} {c0 : Int32} {a6 a7 a8 a9 m97 m98 m99 m100 : Nat → Int32} (h : rz_Qk n np c0 a6 a7 a8 a9 m97 m98 m99 m100) (hn : n ≤ n') : rz_Qk n' np c0 a6 a7 a8 a9 m97 m98 m99 m100 := by
  obtain ⟨Lk, h1, h2, h3, h4, h5⟩ := h
  refine ⟨Lk, h1, h2, fun i x hx => ?_, h4, h5⟩
  obtain ⟨a, b, c, d, e, f, g, i⟩ := h3 i x hx
  exact ⟨a, b, c, d, e, f, g, by omega⟩
/-- reading numbers leaves it -/
theorem rz_Q_eq {n n' : Nat} {τ ψ υ φ : ra_S} (h : rz_Q n τ ψ) (hn : n ≤ n') (f : rz_fn τ υ) (g : rz_fp ψ φ) : rz_Q n' υ φ := by
  obtain ⟨nb, nl, np, nw, h1, h2, h3, h4, h5, h6⟩ := h
  have h2' := rz_Qb_mono h2 hn
  have h6' := rz_Qk_mono h6 hn
  refine ⟨nb, nl, np, nw, ?_⟩
  simp only [f.1 29 (by decide) (by decide), f.1 30 (by decide) (by decide), f.1 31 (by decide) (by decide), f.1 32 (by decide) (by decide), f.1 33 (by decide) (by decide), f.1 34 (by decide) (by decide), f.1 35 (by decide) (by decide), f.1 36 (by decide) (by decide), f.1 37 (by decide) (by decide), f.1 38 (by decide) (by decide), f.1 39 (by decide) (by decide), f.1 40 (by decide) (by decide), f.1 41 (by decide) (by decide), f.1 42 (by decide) (by decide), f.1 43 (by decide) (by decide), f.1 44 (by decide) (by decide), f.1 45 (by decide) (by decide), f.1 46 (by decide) (by decide), f.1 47 (by decide) (by decide), f.1 5 (by decide) (by decide), f.1 6 (by decide) (by decide), f.1 7 (by decide) (by decide), f.1 8 (by decide) (by decide), f.1 9 (by decide) (by decide), g.1 89 (by decide), g.1 90 (by decide), g.1 91 (by decide), g.1 92 (by decide), g.1 93 (by decide), g.1 96 (by decide), g.1 97 (by decide), g.1 98 (by decide), g.1 99 (by decide), g.1 100 (by decide), g.2.1 18 (by omega), g.2.1 19 (by omega), g.2.1 20 (by omega), g.2.1 21 (by omega), g.2.1 22 (by omega), g.2.1 23 (by omega), g.2.1 24 (by omega)]
  exact ⟨h1, h2', h3, h4, h5, h6'⟩
/-- what reading a text may change -/
def rz_gct (τ υ : ra_S) : Prop := (∀ c, ¬ (c = 1 ∨ c = 2 ∨ (5 ≤ c ∧ c ≤ 9) ∨ (29 ≤ c ∧ c ≤ 47)) → υ.1 c = τ.1 c) ∧ υ.1 1 4 = τ.1 1 4 ∧ (∀ k, k < 4 ∨ 8 ≤ k → υ.1 2 k = τ.1 2 k) ∧ υ.1 44 0 = τ.1 44 0 ∧ υ.2 = τ.2
def rz_gmt (τ υ : ra_S) : Prop := (∀ c, ¬ (c = 86 ∨ (89 ≤ c ∧ c ≤ 100)) → υ.1 c = τ.1 c) ∧ (∀ k, ¬ ((4 ≤ k ∧ k ≤ 5) ∨ (7 ≤ k ∧ k ≤ 11) ∨ (18 ≤ k ∧ k ≤ 24)) → υ.1 86 k = τ.1 86 k) ∧ ((∀ k, k < 40 → υ.1 89 k = τ.1 89 k) ∧ (∀ k, k < 6 → υ.1 90 k = τ.1 90 k) ∧ (∀ k, k < 36 → υ.1 91 k = τ.1 91 k) ∧ (∀ k, k < 8 → υ.1 92 k = τ.1 92 k) ∧ (∀ k, k < 40 → υ.1 93 k = τ.1 93 k) ∧ (∀ k, k < 8 → υ.1 94 k = τ.1 94 k) ∧ (∀ k, k < 8 → υ.1 95 k = τ.1 95 k) ∧ (∀ k, k < 21 → υ.1 96 k = τ.1 96 k)) ∧ υ.2 = τ.2
theorem rz_fn.gct {τ υ : ra_S} (h : rz_fn τ υ) : rz_gct τ υ := ⟨fun c hc => h.1 c (by omega) (by omega), h.2.1 4 (by omega), h.2.2.1, by rw [h.1 44 (by decide) (by decide)], h.2.2.2⟩
theorem rz_fp.gmt {τ υ : ra_S} (h : rz_fp τ υ) : rz_gmt τ υ := by
  refine ⟨fun c hc => h.1 c (by omega), fun k hk => h.2.1 k (by omega), ?_, h.2.2⟩
  rw [h.1 89 (by decide), h.1 90 (by decide), h.1 91 (by decide), h.1 92 (by decide), h.1 93 (by decide), h.1 94 (by decide), h.1 95 (by decide), h.1 96 (by decide)]
  exact ⟨fun _ _ => rfl, fun _ _ => rfl, fun _ _ => rfl, fun _ _ => rfl, fun _ _ => rfl, fun _ _ => rfl, fun _ _ => rfl, fun _ _ => rfl⟩
theorem rz_gct.rf (τ : ra_S) : rz_gct τ τ := ⟨fun _ _ => rfl, rfl, fun _ _ => rfl, rfl, rfl⟩
theorem rz_gct.tr {τ υ ψ : ra_S} (h : rz_gct τ υ) (g : rz_gct υ ψ) : rz_gct τ ψ := ⟨fun c hc => (g.1 c hc).trans (h.1 c hc), g.2.1.trans h.2.1, fun k hk => (g.2.2.1 k hk).trans (h.2.2.1 k hk), g.2.2.2.1.trans h.2.2.2.1, g.2.2.2.2.trans h.2.2.2.2⟩
theorem rz_gmt.tr {τ υ ψ : ra_S} (h : rz_gmt τ υ) (g : rz_gmt υ ψ) : rz_gmt τ ψ := by
  obtain ⟨h1, h2, ⟨a1, a2, a3, a4, a5, a6, a7, a8⟩, h4⟩ := h
  obtain ⟨g1, g2, ⟨b1, b2, b3, b4, b5, b6, b7, b8⟩, g4⟩ := g
  exact ⟨fun c hc => (g1 c hc).trans (h1 c hc), fun k hk => (g2 k hk).trans (h2 k hk), ⟨fun k hk => (b1 k hk).trans (a1 k hk), fun k hk => (b2 k hk).trans (a2 k hk), fun k hk => (b3 k hk).trans (a3 k hk), fun k hk => (b4 k hk).trans (a4 k hk), fun k hk => (b5 k hk).trans (a5 k hk), fun k hk => (b6 k hk).trans (a6 k hk), fun k hk => (b7 k hk).trans (a7 k hk), fun k hk => (b8 k hk).trans (a8 k hk)⟩, g4.trans h4⟩
theorem rz_gct_ui (τ : ra_S) {c k : Nat} {x : Int32} (hc : ((5 ≤ c ∧ c ≤ 9) ∨ (29 ≤ c ∧ c ≤ 47)) ∧ ¬ (c = 44 ∧ k = 0) ∨ (c = 1 ∧ k ≠ 4)) : rz_gct τ (ra_ui τ c k x) := ⟨fun d hd => ra_ui_1 d (by omega), by rw [ra_ui_get, if_neg (fun q => by omega)], fun j _ => by rw [ra_ui_1 2 (by omega)], by rw [ra_ui_get, if_neg (fun q => by omega)], rfl⟩
/-- a line: read on both sides, or a fault on both sides -/
def rz_Ln (t : Nat → Nat) (N n : Nat) (e f : Option ((Option Value ⊕ (ra_L × List Value)) × ra_S)) (τ ψ : ra_S) : Prop :=
  (∃ (υ φ : ra_S) (n' : Nat) (k' : Nat × Nat), e = ra_I 1 υ ∧ f = ra_I 1 φ ∧ rz_J t N n' k' υ φ ∧ n ≤ n' ∧ rz_Q n' υ φ ∧ rz_gct τ υ ∧ rz_gmt ψ φ) ∨
  (∃ υ φ : ra_S, e = ra_I 0 υ ∧ f = ra_I 0 φ ∧ rz_Fl υ φ ∧ rz_gct τ υ ∧ rz_gmt ψ φ)
