-- ===== text: both sides side by side =====
def rz_kc (k : Nat × Nat) : Nat := if k.1 = 6 then 6 + rz_wc k.2 else k.1
def rz_km (k : Nat × Nat) : Nat := match k.1 with
  | 0 => 0
  | 1 => 5
  | 2 => 3
  | 3 => 2
  | 4 => 4
  | 5 => 4
  | _ => 1
theorem rz_Kc_kd {k : Nat × Nat} {τ : ra_S} (h : rz_Kc k τ) : k.1 ≤ 6 ∧ τ.1 2 5 = nI (rz_kc k) ∧ (k.1 = 6 → k.2 < 11) ∧ (k.1 = 2 → rz_nq (τ.1 2 7) k.2) ∧ (k.1 = 3 → τ.1 2 7 = nI k.2) := by
  obtain ⟨k1, v⟩ := k
  match k1, h with
  | 0, h => exact ⟨by show (0 : Nat) ≤ 6; omega, h.2, fun q => (by cases q), fun q => (by cases q), fun q => (by cases q)⟩
  | 1, h => exact ⟨by show (1 : Nat) ≤ 6; omega, h.2, fun q => (by cases q), fun q => (by cases q), fun q => (by cases q)⟩
  | 2, h => exact ⟨by show (2 : Nat) ≤ 6; omega, h.1, fun q => (by cases q), fun _ => h.2, fun q => (by cases q)⟩
  | 3, h => exact ⟨by show (3 : Nat) ≤ 6; omega, h.1, fun q => (by cases q), fun q => (by cases q), fun _ => h.2.1⟩
  | 4, h => exact ⟨by show (4 : Nat) ≤ 6; omega, h.2, fun q => (by cases q), fun q => (by cases q), fun q => (by cases q)⟩
  | 5, h => exact ⟨by show (5 : Nat) ≤ 6; omega, h.2, fun q => (by cases q), fun q => (by cases q), fun q => (by cases q)⟩
  | 6, h => exact ⟨by show (6 : Nat) ≤ 6; omega, h.2, fun _ => h.1, fun q => (by cases q), fun q => (by cases q)⟩
  | j + 7, h => exact absurd h.1 (by omega)
theorem rz_Km_kd {k : Nat × Nat} {τ : ra_S} (h : rz_Km k τ) : τ.1 86 8 = nI (rz_km k) ∧ (k.1 = 2 → rz_nq (τ.1 86 9) k.2) ∧ (k.1 = 3 → τ.1 86 9 = nI k.2) ∧ (k.1 = 4 → τ.1 86 9 = nI 45) ∧ (k.1 = 5 → τ.1 86 9 = nI 59) ∧ (k.1 = 6 → τ.1 86 9 = nI k.2) := by
  obtain ⟨k1, v⟩ := k
  match k1, h with
  | 0, h => exact ⟨h, fun q => (by cases q), fun q => (by cases q), fun q => (by cases q), fun q => (by cases q), fun q => (by cases q)⟩
  | 1, h => exact ⟨h, fun q => (by cases q), fun q => (by cases q), fun q => (by cases q), fun q => (by cases q), fun q => (by cases q)⟩
  | 2, h => exact ⟨h.1, fun _ => h.2, fun q => (by cases q), fun q => (by cases q), fun q => (by cases q), fun q => (by cases q)⟩
  | 3, h => exact ⟨h.1, fun q => (by cases q), fun _ => h.2, fun q => (by cases q), fun q => (by cases q), fun q => (by cases q)⟩
  | 4, h => exact ⟨h.1, fun q => (by cases q), fun q => (by cases q), fun _ => h.2, fun q => (by cases q), fun q => (by cases q)⟩
  | 5, h => exact ⟨h.1, fun q => (by cases q), fun q => (by cases q), fun q => (by cases q), fun _ => h.2, fun q => (by cases q)⟩
  | 6, h => exact ⟨h.2.1, fun q => (by cases q), fun q => (by cases q), fun q => (by cases q), fun q => (by cases q), fun _ => h.2.2⟩
  | j + 7, h => exact absurd h (fun q => q)
theorem rz_km_cases {k : Nat × Nat} (h : k.1 ≤ 6) : (k.1 = 0 ∧ rz_km k = 0) ∨ (k.1 = 1 ∧ rz_km k = 5) ∨ (k.1 = 2 ∧ rz_km k = 3) ∨ (k.1 = 3 ∧ rz_km k = 2) ∨ (k.1 = 4 ∧ rz_km k = 4) ∨ (k.1 = 5 ∧ rz_km k = 4) ∨ (k.1 = 6 ∧ rz_km k = 1) := by
  obtain ⟨k1, v⟩ := k
  match k1, h with
  | 0, _ => exact Or.inl ⟨rfl, rfl⟩
  | 1, _ => exact Or.inr (Or.inl ⟨rfl, rfl⟩)
  | 2, _ => exact Or.inr (Or.inr (Or.inl ⟨rfl, rfl⟩))
  | 3, _ => exact Or.inr (Or.inr (Or.inr (Or.inl ⟨rfl, rfl⟩)))
  | 4, _ => exact Or.inr (Or.inr (Or.inr (Or.inr (Or.inl ⟨rfl, rfl⟩))))
  | 5, _ => exact Or.inr (Or.inr (Or.inr (Or.inr (Or.inr (Or.inl ⟨rfl, rfl⟩)))))
  | 6, _ => exact Or.inr (Or.inr (Or.inr (Or.inr (Or.inr (Or.inr ⟨rfl, rfl⟩)))))
  | j + 7, h => exact absurd h (by show ¬ (j + 7 ≤ 6); omega)
/-- the fault is the same -/
def rz_Fl (τ ψ : ra_S) : Prop := τ.1 1 2 = ψ.1 86 4 ∧ τ.1 1 3 = ψ.1 86 5
/-- both at the same token k, behind it n; the fault is the same too -/
def rz_J (t : Nat → Nat) (N n : Nat) (k : Nat × Nat) (τ ψ : ra_S) : Prop := rz_Tc t N n τ ∧ rz_Tm t N n ψ ∧ rz_Kc k τ ∧ rz_Km k ψ ∧ τ.1 2 6 = ψ.1 86 10 ∧ rz_Fl τ ψ
/-- a place of the text reached from n -/
def rz_aft (n n' : Nat) (k' : Nat × Nat) : Prop := n ≤ n' ∧ (k'.1 ≠ 0 → n < n')
/-- what reading a number may change -/
def rz_fn (τ υ : ra_S) : Prop := (∀ c, c ≠ 1 → c ≠ 2 → υ.1 c = τ.1 c) ∧ (∀ k, k = 4 ∨ k = 6 ∨ k = 7 → υ.1 1 k = τ.1 1 k) ∧ (∀ k, k < 4 ∨ 8 ≤ k → υ.1 2 k = τ.1 2 k) ∧ υ.2 = τ.2
def rz_fp (τ υ : ra_S) : Prop := (∀ c, c ≠ 86 → υ.1 c = τ.1 c) ∧ (∀ k, k < 4 ∨ k = 6 ∨ 12 ≤ k → υ.1 86 k = τ.1 86 k) ∧ υ.2 = τ.2
theorem rz_fn.tr {τ υ ψ : ra_S} (h : rz_fn τ υ) (g : rz_fn υ ψ) : rz_fn τ ψ := ⟨fun c h1 h2 => (g.1 c h1 h2).trans (h.1 c h1 h2), fun k hk => (g.2.1 k hk).trans (h.2.1 k hk), fun k hk => (g.2.2.1 k hk).trans (h.2.2.1 k hk), g.2.2.2.trans h.2.2.2⟩
theorem rz_fp.tr {τ υ ψ : ra_S} (h : rz_fp τ υ) (g : rz_fp υ ψ) : rz_fp τ ψ := ⟨fun c h1 => (g.1 c h1).trans (h.1 c h1), fun k hk => (g.2.1 k hk).trans (h.2.1 k hk), g.2.2.trans h.2.2⟩
theorem rz_f2.fn {τ υ : ra_S} (h : rz_f2 τ υ) : rz_fn τ υ := ⟨fun c _ h2 => h.1 c h2, fun k _ => by rw [h.1 1 (by decide)], h.2.1, h.2.2⟩
theorem rz_fm.fp {τ υ : ra_S} (h : rz_fm τ υ) : rz_fp τ υ := ⟨h.1, fun k hk => h.2.1 k (by omega), h.2.2⟩
theorem rz_fn_ui (τ : ra_S) {k : Nat} {x : Int32} (hk : k = 2 ∨ k = 3 ∨ k = 5) : rz_fn τ (ra_ui τ 1 k x) := ⟨fun c h1 _ => ra_ui_1 c h1, fun j hj => by rw [ra_ui_get, if_neg (fun q => by omega)], fun j _ => by rw [ra_ui_1 2 (by decide)], rfl⟩
theorem rz_fp_ui (τ : ra_S) {k : Nat} {x : Int32} (hk : k = 4 ∨ k = 5 ∨ k = 11) : rz_fp τ (ra_ui τ 86 k x) := ⟨fun c h1 => ra_ui_1 c h1, fun j hj => by rw [ra_ui_get, if_neg (fun q => by omega)], rfl⟩
theorem rz_J_c {t : Nat → Nat} {N n : Nat} {k : Nat × Nat} {τ ψ υ : ra_S} (h : rz_J t N n k τ ψ) (g : ∀ c, c = 2 ∨ c = 3 ∨ c = 4 → υ.1 c = τ.1 c) (g2 : υ.1 1 2 = τ.1 1 2 ∧ υ.1 1 3 = τ.1 1 3 := by exact ⟨rfl, rfl⟩) : rz_J t N n k υ ψ := by
  unfold rz_J rz_Tc rz_Kc rz_Fl at h ⊢
  rw [g 2 (by omega), g 3 (by omega), g 4 (by omega), g2.1, g2.2]
  exact h
theorem rz_J_m {t : Nat → Nat} {N n : Nat} {k : Nat × Nat} {τ ψ υ : ra_S} (h : rz_J t N n k τ ψ) (g : ∀ j, 6 ≤ j ∧ j ≤ 10 → υ.1 86 j = ψ.1 86 j) (g2 : υ.1 87 = ψ.1 87 ∧ υ.1 88 = ψ.1 88) (g3 : υ.1 86 4 = ψ.1 86 4 ∧ υ.1 86 5 = ψ.1 86 5 := by exact ⟨rfl, rfl⟩) : rz_J t N n k τ υ := by
  unfold rz_J rz_Tm rz_Km rz_Fl at h ⊢
  rw [g 6 (by omega), g 7 (by omega), g 8 (by omega), g 9 (by omega), g 10 (by omega), g2.1, g2.2, g3.1, g3.2]
  exact h
theorem rz_stepK {t : Nat → Nat} {N n : Nat} {k : Nat × Nat} {τ ψ : ra_S} (h : rz_J t N n k τ ψ) : ∃ (n' : Nat) (k' : Nat × Nat) (υ φ : ra_S), ra_C 74 [.ref 2] τ = ra_V υ ∧ ra_C 149 [.ref 86] ψ = ra_V φ ∧ rz_J t N n' k' υ φ ∧ rz_aft n n' k' ∧ rz_f2 τ υ ∧ rz_fm ψ φ ∧ ∃ pl : Nat, υ.1 2 6 = nI pl ∧ φ.1 86 10 = nI pl ∧ n ≤ pl ∧ (k'.1 ≠ 0 → pl < n') := by
  obtain ⟨k', pl, nx, hk, q1, q2, q3, q4⟩ := rz_tk_ex t h.1.2.2.2.1
  obtain ⟨υ, e1, a1, a2, a3, a4⟩ := rz_c_step h.1 hk
  obtain ⟨φ, e2, b1, b2, b3, b4⟩ := rz_m_step h.2.1 hk
  refine ⟨nx, k', υ, φ, e1, e2, ⟨a1, b1, a3, b3, a4.trans b4.symm, by rw [a2.1 1 (by decide), b2.2.1 4 (by omega)]; exact h.2.2.2.2.2.1, by rw [a2.1 1 (by decide), b2.2.1 5 (by omega)]; exact h.2.2.2.2.2.2⟩, ⟨?_, fun q => ?_⟩, a2, b2, pl, a4, b4, q3, q4⟩
  · by_cases z : k'.1 = 0
    · obtain ⟨-, hk⟩ := hk
      rcases hk with ⟨-, -, rfl⟩ | ⟨-, -, rfl, -⟩ | ⟨-, -, -, rfl, -⟩ | ⟨-, -, -, rfl, -⟩
      · exact q3
      · exact Nat.le_trans q3 (rz_run_le _ _ _).1
      · exact Nat.le_trans q3 (rz_run_le _ _ _).1
      · omega
    · have := q4 z; omega
  · have := q4 q; omega
theorem rz_stepJ {t : Nat → Nat} {N n : Nat} {k : Nat × Nat} {τ ψ : ra_S} (h : rz_J t N n k τ ψ) : ∃ (n' : Nat) (k' : Nat × Nat) (υ φ : ra_S), ra_C 74 [.ref 2] τ = ra_V υ ∧ ra_C 149 [.ref 86] ψ = ra_V φ ∧ rz_J t N n' k' υ φ ∧ rz_aft n n' k' ∧ rz_f2 τ υ ∧ rz_fm ψ φ := by
  obtain ⟨n', k', υ, φ, a1, a2, a3, a4, a5, a6, -⟩ := rz_stepK h
  exact ⟨n', k', υ, φ, a1, a2, a3, a4, a5, a6⟩
theorem rz_Kc_nm {k : Nat × Nat} {τ : ra_S} (h : rz_Kc k τ) (z : k.1 = 3) : k.2 < 1073741824 := by
  obtain ⟨k1, v⟩ := k
  dsimp only at z
  subst z
  exact h.2.2
theorem rz_c_fail (τ : ra_S) (w : Int32) : ra_C 39 [.ref 1, .int w] τ = ra_I 0 (ra_ui (ra_ui τ 1 2 w) 1 3 (τ.1 2 6)) := by
  rw [e_39, e_40, ra_kI, if_pos (Or.inl rfl)]
theorem rz_Fl_of {t : Nat → Nat} {N n : Nat} {k : Nat × Nat} {τ ψ : ra_S} (h : rz_J t N n k τ ψ) (w : Int32) : rz_Fl (ra_ui (ra_ui τ 1 2 w) 1 3 (τ.1 2 6)) (ra_ui (ra_ui ψ 86 4 w) 86 5 (ψ.1 86 10)) := by
  unfold rz_Fl
  simp only [ra_ui_get, Nat.reduceEqDiff, and_false, and_true, if_true, if_false, true_and]
  exact h.2.2.2.2.1
theorem rz_fn_fail (τ : ra_S) (w x : Int32) : rz_fn τ (ra_ui (ra_ui τ 1 2 w) 1 3 x) := (rz_fn_ui τ (by omega)).tr (rz_fn_ui _ (by omega))
theorem rz_fp_fail (τ : ra_S) (w x : Int32) : rz_fp τ (ra_ui (ra_ui τ 86 4 w) 86 5 x) := (rz_fp_ui τ (by omega)).tr (rz_fp_ui _ (by omega))
theorem rz_b01 {α : Type} {x y : α} : (if (0 : Int32) = 0 ∨ (0 : Int32) = 1 then x else y) = x := if_pos (Or.inl rfl)
/-- both sides answer no, with the same fault -/
def rz_No (e f : Option ((Option Value ⊕ (ra_L × List Value)) × ra_S)) (τ ψ : ra_S) : Prop := ∃ υ φ : ra_S, e = ra_I 0 υ ∧ f = ra_I 0 φ ∧ rz_fn τ υ ∧ rz_fp ψ φ ∧ rz_Fl υ φ
theorem rz_num {t : Nat → Nat} {N n : Nat} {k : Nat × Nat} {τ ψ : ra_S} (h : rz_J t N n k τ ψ) {lo hi : Nat} (hh : hi ≤ 9999) (hl : lo ≤ hi) :
    (∃ (υ φ : ra_S) (n' : Nat) (k' : Nat × Nat) (v : Nat), ra_C 37 [.ref 1, .int (nI lo), .int (nI hi)] τ = ra_I 1 υ ∧ ra_C 153 [.ref 86, .int (nI lo), .int (nI hi)] ψ = ra_I 1 φ ∧ rz_J t N n' k' υ φ ∧ rz_aft n n' k' ∧ rz_fn τ υ ∧ rz_fp ψ φ ∧ lo ≤ v ∧ v ≤ hi ∧ υ.1 1 5 = nI v ∧ φ.1 86 11 = nI v ∧ k.1 = 2) ∨
    rz_No (ra_C 37 [.ref 1, .int (nI lo), .int (nI hi)] τ) (ra_C 153 [.ref 86, .int (nI lo), .int (nI hi)] ψ) τ ψ := by
  obtain ⟨c1, c2, c3, c4, c5⟩ := rz_Kc_kd h.2.2.1
  obtain ⟨m1, m2, m3, m4, m5, m6⟩ := rz_Km_kd h.2.2.2.1
  have b1 : rz_kc k = 2 ↔ k.1 = 2 := by unfold rz_kc; split <;> omega
  have b2 : rz_km k = 3 ↔ k.1 = 2 := by rcases rz_km_cases c1 with q | q | q | q | q | q | q <;> omega
  have kcl : rz_kc k < 100 := by
    unfold rz_kc
    split
    · have := rz_wc_lt ⟨k.2, c3 (by assumption)⟩
      dsimp only at this
      omega
    · omega
  have kml : rz_km k < 100 := by rcases rz_km_cases c1 with q | q | q | q | q | q | q <;> omega
  rw [e_37, if_neg (nI_pos (by omega)), e_37_19, e_37_20, if_pos rfl, e_37_32, c2, show (2 : Int32) = nI 2 from rfl, rz_lit (by omega) (by omega), if_pos rfl, e_37_72, e_153, m1, show (3 : Int32) = nI 3 from rfl, rz_lit (by omega) (by omega)]
  by_cases z : k.1 = 2
  · rw [if_pos (b1.mpr z), if_pos (b2.mpr z), rz_c_in _ _ lo hi (nI_toInt (by omega)) (nI_toInt (by omega)), rz_m_in _ _ lo hi (nI_toInt (by omega)) (nI_toInt (by omega)), ra_kI, ra_kI]
    have cq := c4 z
    have mq := m2 z
    by_cases y : k.2 < 10000 ∧ lo ≤ k.2 ∧ k.2 ≤ hi
    · obtain ⟨y1, y2, y3⟩ := y
      have cv : τ.1 2 7 = nI k.2 := by
        rcases cq with q | q
        · exact q.2
        · omega
      have mv : ψ.1 86 9 = nI k.2 := by
        rcases mq with q | q
        · exact q.2
        · omega
      have r : (lo : Int) ≤ (nI k.2).toInt ∧ (nI k.2).toInt ≤ (hi : Int) := by rw [nI_toInt (by omega)]; omega
      rw [cv, mv, rz_t r, rz_t r]
      have J1 : rz_J t N n k (ra_ui τ 1 5 (nI k.2)) (ra_ui ψ 86 11 (nI k.2)) := rz_J_m (rz_J_c h (fun c hc => ra_ui_1 c (by omega))) (fun j hj => by rw [ra_ui_get, if_neg (fun q => by omega)]) ⟨ra_ui_1 87 (by decide), ra_ui_1 88 (by decide)⟩
      obtain ⟨n', k', υ, φ, e1, e2, J2, aft, f1, f2⟩ := rz_stepJ J1
      refine Or.inl ⟨υ, φ, n', k', k.2, by rw [e1, ra_kV], by rw [e2, ra_kV], J2, aft, (rz_fn_ui τ (by omega)).tr f1.fn, (rz_fp_ui ψ (by omega)).tr f2.fp, y2, y3, ?_, ?_, z⟩
      · rw [f1.1 1 (by decide), ra_ui_get, if_pos ⟨rfl, rfl⟩]
      · rw [f2.2.1 11 (by omega), ra_ui_get, if_pos ⟨rfl, rfl⟩]
    · have nc : ¬ ((lo : Int) ≤ (τ.1 2 7).toInt ∧ (τ.1 2 7).toInt ≤ (hi : Int)) := by
        rcases cq with ⟨q1, q2⟩ | ⟨q1, m, q2, q3, q4⟩
        · rw [q2, nI_toInt (by omega)]; omega
        · rw [q2, nI_toInt (by omega)]; omega
      have nm : ¬ ((lo : Int) ≤ (ψ.1 86 9).toInt ∧ (ψ.1 86 9).toInt ≤ (hi : Int)) := by
        rcases mq with ⟨q1, q2⟩ | ⟨q1, m, q2, q3, q4⟩
        · rw [q2, nI_toInt (by omega)]; omega
        · rw [q2, nI_toInt (by omega)]; omega
      have J1 : rz_J t N n k (ra_ui τ 1 5 (τ.1 2 7)) ψ := rz_J_c h (fun c hc => ra_ui_1 c (by omega))
      rw [rz_f nc, rz_f nm, rz_c_fail, ra_kI, rz_b01, e_145, ra_kI, rz_b01]
      exact Or.inr ⟨_, _, rfl, rfl, (rz_fn_ui τ (by omega)).tr (rz_fn_fail _ _ _), rz_fp_fail _ _ _, rz_Fl_of J1 _⟩
  · rw [if_neg (fun q => z (b1.mp q)), if_neg (fun q => z (b2.mp q)), rz_c_fail, ra_kI, rz_b01, e_145, ra_kI, rz_b01]
    exact Or.inr ⟨_, _, rfl, rfl, rz_fn_fail _ _ _, rz_fp_fail _ _ _, rz_Fl_of h _⟩
