-- ===== text: a line; written by wip/whole/gen72.py =====
section RZLN
variable {t : Nat → Nat} {N n : Nat} {k : Nat × Nat} {τ ψ : ra_S}
theorem rz_line (h : rz_J t N n k τ ψ) (hQ : rz_Q n τ ψ) (hk : k.1 ≠ 0) (hn : 1 ≤ n) {i : Nat} (hi : i < 800) (o1 o4 : Option Value) :
    (∃ (υ φ : ra_S) (n' : Nat) (k' : Nat × Nat) (o4' : Option Value), ra_D (ra_lay, none, 99999, ra_m24) 8 [some (.ref 1), o1, some (.ref 29), some (.int (nI i)), o4] [] τ = ra_D (ra_lay, none, 99999, ra_m24) 8 [some (.ref 1), o1, some (.ref 29), some (.int (nI (i + 1))), o4'] [] (ra_ui υ 1 4 (υ.1 1 4 + 1)) ∧ ra_C 168 [.ref 86] ψ = ra_I 1 φ ∧ rz_J t N n' k' υ φ ∧ rz_aft n n' k' ∧ rz_Q n' υ φ ∧ rz_gct τ υ ∧ rz_gmt ψ φ) ∨
    (∃ υ φ : ra_S, ra_D (ra_lay, none, 99999, ra_m24) 8 [some (.ref 1), o1, some (.ref 29), some (.int (nI i)), o4] [] τ = ra_I 0 υ ∧ ra_C 168 [.ref 86] ψ = ra_I 0 φ ∧ rz_Fl υ φ ∧ rz_gct τ υ ∧ rz_gmt ψ φ) := by
  obtain ⟨c1, c2, c3, c4, c5⟩ := rz_Kc_kd h.2.2.1
  obtain ⟨m1, m2, m3, m4, m5, m6⟩ := rz_Km_kd h.2.2.2.1
  have i8 : nI i < (800 : Int32) := nI_lt (b := 800) hi (by omega)
  obtain ⟨k1, w⟩ := k
  dsimp only at hk c1 c3 m6
  by_cases z : k1 = 6
  · subst z
    have m : ψ.1 86 8 = (1 : Int32) := m1
    have hw := c3 rfl
    rcases (show w = 0 ∨ w = 1 ∨ w = 2 ∨ w = 3 ∨ w = 4 ∨ w = 5 ∨ w = 6 ∨ w = 7 ∨ w = 8 ∨ w = 9 ∨ w = 10 by omega) with rfl | rfl | rfl | rfl | rfl | rfl | rfl | rfl | rfl | rfl | rfl
    · have c : τ.1 2 5 = (6 : Int32) := c2
      have m9 : ψ.1 86 9 = (0 : Int32) := m6 rfl
      have ml : ra_C 168 [.ref 86] ψ = (ra_C 161 [.ref 86] ψ).bind (ra_ki fun x s => ra_D (ra_lay, none, 99999, ra_m168) 105 [some (.ref 86), some (.int x)] [] s) := by rw [e_168, m, if_pos rfl, m9, if_neg (by decide), if_pos rfl]
      have cl : ra_D (ra_lay, none, 99999, ra_m24) 8 [some (.ref 1), o1, some (.ref 29), some (.int (nI i)), o4] [] τ = (ra_C 26 [.ref 1, .ref 29] τ).bind (ra_ki fun x s => ra_D (ra_lay, none, 99999, ra_m24) 181 [some (.ref 1), o1, some (.ref 29), some (.int (nI i)), some (.int x)] [] s) := by rw [e_24_8, if_pos i8, c, if_neg (by decide), if_pos rfl]
      rw [cl, ml, ← nI_1]
      exact rz_lend (rz_stick h hQ) _ _
    · have c : τ.1 2 5 = (7 : Int32) := c2
      have m9 : ψ.1 86 9 = (1 : Int32) := m6 rfl
      have ml : ra_C 168 [.ref 86] ψ = (ra_C 162 [.ref 86] ψ).bind (ra_ki fun x s => ra_D (ra_lay, none, 99999, ra_m168) 105 [some (.ref 86), some (.int x)] [] s) := by rw [e_168, m, if_pos rfl, m9, if_neg (by decide), if_neg (by decide), if_pos rfl]
      have cl : ra_D (ra_lay, none, 99999, ra_m24) 8 [some (.ref 1), o1, some (.ref 29), some (.int (nI i)), o4] [] τ = (ra_C 27 [.ref 1, .ref 29] τ).bind (ra_ki fun x s => ra_D (ra_lay, none, 99999, ra_m24) 181 [some (.ref 1), o1, some (.ref 29), some (.int (nI i)), some (.int x)] [] s) := by rw [e_24_8, if_pos i8, c, if_neg (by decide), if_neg (by decide), if_pos rfl]
      rw [cl, ml, ← nI_1]
      exact rz_lend (rz_beatL h hQ) _ _
    · have c : τ.1 2 5 = (9 : Int32) := c2
      have m9 : ψ.1 86 9 = (2 : Int32) := m6 rfl
      have ml : ra_C 168 [.ref 86] ψ = (ra_C 163 [.ref 86] ψ).bind (ra_ki fun x s => ra_D (ra_lay, none, 99999, ra_m168) 105 [some (.ref 86), some (.int x)] [] s) := by rw [e_168, m, if_pos rfl, m9, if_neg (by decide), if_neg (by decide), if_neg (by decide), if_pos rfl]
      have cl : ra_D (ra_lay, none, 99999, ra_m24) 8 [some (.ref 1), o1, some (.ref 29), some (.int (nI i)), o4] [] τ = (ra_C 28 [.ref 1, .ref 29] τ).bind (ra_ki fun x s => ra_D (ra_lay, none, 99999, ra_m24) 181 [some (.ref 1), o1, some (.ref 29), some (.int (nI i)), some (.int x)] [] s) := by rw [e_24_8, if_pos i8, c, if_neg (by decide), if_neg (by decide), if_neg (by decide), if_neg (by decide), if_pos rfl]
      rw [cl, ml, ← nI_1]
      exact rz_lend (rz_pauseL h hQ) _ _
    · have c : τ.1 2 5 = (10 : Int32) := c2
      have m9 : ψ.1 86 9 = (3 : Int32) := m6 rfl
      have ml : ra_C 168 [.ref 86] ψ = (ra_C 164 [.ref 86] ψ).bind (ra_ki fun x s => ra_D (ra_lay, none, 99999, ra_m168) 105 [some (.ref 86), some (.int x)] [] s) := by rw [e_168, m, if_pos rfl, m9, if_neg (by decide), if_neg (by decide), if_neg (by decide), if_neg (by decide), if_pos rfl]
      have cl : ra_D (ra_lay, none, 99999, ra_m24) 8 [some (.ref 1), o1, some (.ref 29), some (.int (nI i)), o4] [] τ = (ra_C 29 [.ref 1, .ref 30] τ).bind (ra_ki fun x s => ra_D (ra_lay, none, 99999, ra_m24) 181 [some (.ref 1), o1, some (.ref 29), some (.int (nI i)), some (.int x)] [] s) := by rw [e_24_8, if_pos i8, c, if_neg (by decide), if_neg (by decide), if_neg (by decide), if_neg (by decide), if_neg (by decide), if_pos rfl]
      rw [cl, ml, ← nI_1]
      exact rz_lend (rz_lawL h hQ) _ _
    · have c : τ.1 2 5 = (12 : Int32) := c2
      have m9 : ψ.1 86 9 = (4 : Int32) := m6 rfl
      have ml : ra_C 168 [.ref 86] ψ = (ra_C 166 [.ref 86] ψ).bind (ra_ki fun x s => ra_D (ra_lay, none, 99999, ra_m168) 105 [some (.ref 86), some (.int x)] [] s) := by rw [e_168, m, if_pos rfl, m9, if_neg (by decide), if_neg (by decide), if_neg (by decide), if_neg (by decide), if_neg (by decide), if_pos rfl]
      have L := rz_playerL h hQ hn
      have cl : ra_D (ra_lay, none, 99999, ra_m24) 8 [some (.ref 1), o1, some (.ref 29), some (.int (nI i)), o4] [] τ = ((ra_C 30 [.ref 1, .ref 29] τ).bind (ra_ki fun x s => if x = (0 : Int32) then ra_I 0 s else ra_C 31 [.ref 1, .ref 35] s)).bind (ra_ki fun x s => ra_D (ra_lay, none, 99999, ra_m24) 181 [some (.ref 1), o1, some (.ref 29), some (.int (nI i)), some (.int x)] [] s) := by
        rw [e_24_8, if_pos i8, c, if_neg (by decide), if_neg (by decide), if_neg (by decide), if_neg (by decide), if_neg (by decide), if_neg (by decide), if_neg (by decide), if_pos rfl]
        rcases id L with ⟨υ, φ, n', k', a1, -⟩ | ⟨υ, φ, a1, -⟩
        · rw [a1, ra_kI]; exact rz_pjoin (Or.inr rfl) a1 _ _ _
        · rw [a1, ra_kI]; exact rz_pjoin (Or.inl rfl) a1 _ _ _
      rw [cl, ml, ← nI_1]
      exact rz_lend L _ _
    · have c : τ.1 2 5 = (16 : Int32) := c2
      have m9 : ψ.1 86 9 = (5 : Int32) := m6 rfl
      have ml : ra_C 168 [.ref 86] ψ = (ra_C 167 [.ref 86] ψ).bind (ra_ki fun x s => ra_D (ra_lay, none, 99999, ra_m168) 105 [some (.ref 86), some (.int x)] [] s) := by rw [e_168, m, if_pos rfl, m9, if_neg (by decide), if_neg (by decide), if_neg (by decide), if_neg (by decide), if_neg (by decide), if_neg (by decide)]
      have cl : ra_D (ra_lay, none, 99999, ra_m24) 8 [some (.ref 1), o1, some (.ref 29), some (.int (nI i)), o4] [] τ = (ra_C 34 [.ref 1, .ref 29] τ).bind (ra_ki fun x s => ra_D (ra_lay, none, 99999, ra_m24) 181 [some (.ref 1), o1, some (.ref 29), some (.int (nI i)), some (.int x)] [] s) := by rw [e_24_8, if_pos i8, c, if_neg (by decide), if_neg (by decide), if_neg (by decide), if_neg (by decide), if_neg (by decide), if_neg (by decide), if_neg (by decide), if_neg (by decide), if_neg (by decide), if_neg (by decide), if_neg (by decide), if_pos rfl]
      rw [cl, ml, ← nI_1]
      exact rz_lend (rz_wrongL h hQ) _ _
    · have c : τ.1 2 5 = (8 : Int32) := c2
      have m9 : ψ.1 86 9 = (6 : Int32) := m6 rfl
      have cl : ra_D (ra_lay, none, 99999, ra_m24) 8 [some (.ref 1), o1, some (.ref 29), some (.int (nI i)), o4] [] τ = ra_I 0 (ra_ui (ra_ui τ 1 2 1) 1 3 (τ.1 2 6)) := by rw [e_24_8, if_pos i8, c, if_neg (by decide), if_neg (by decide), if_neg (by decide), if_pos rfl, rz_c_fail, ra_kI, e_24_181, rz_00]
      have ml : ra_C 168 [.ref 86] ψ = ra_I 0 (ra_ui (ra_ui ψ 86 4 1) 86 5 (ψ.1 86 10)) := by rw [e_168, m, if_pos rfl, m9, if_pos (by decide), e_145, ra_kI, rz_b01]
      rw [cl, ml]
      exact Or.inr ⟨_, _, rfl, rfl, rz_Fl_of h _, (rz_fn_fail _ _ _).gct, (rz_fp_fail _ _ _).gmt⟩
    · have c : τ.1 2 5 = (11 : Int32) := c2
      have m9 : ψ.1 86 9 = (7 : Int32) := m6 rfl
      have cl : ra_D (ra_lay, none, 99999, ra_m24) 8 [some (.ref 1), o1, some (.ref 29), some (.int (nI i)), o4] [] τ = ra_I 0 (ra_ui (ra_ui τ 1 2 1) 1 3 (τ.1 2 6)) := by rw [e_24_8, if_pos i8, c, if_neg (by decide), if_neg (by decide), if_neg (by decide), if_neg (by decide), if_neg (by decide), if_neg (by decide), if_pos rfl, rz_c_fail, ra_kI, e_24_181, rz_00]
      have ml : ra_C 168 [.ref 86] ψ = ra_I 0 (ra_ui (ra_ui ψ 86 4 1) 86 5 (ψ.1 86 10)) := by rw [e_168, m, if_pos rfl, m9, if_pos (by decide), e_145, ra_kI, rz_b01]
      rw [cl, ml]
      exact Or.inr ⟨_, _, rfl, rfl, rz_Fl_of h _, (rz_fn_fail _ _ _).gct, (rz_fp_fail _ _ _).gmt⟩
    · have c : τ.1 2 5 = (13 : Int32) := c2
      have m9 : ψ.1 86 9 = (8 : Int32) := m6 rfl
      have cl : ra_D (ra_lay, none, 99999, ra_m24) 8 [some (.ref 1), o1, some (.ref 29), some (.int (nI i)), o4] [] τ = ra_I 0 (ra_ui (ra_ui τ 1 2 1) 1 3 (τ.1 2 6)) := by rw [e_24_8, if_pos i8, c, if_neg (by decide), if_neg (by decide), if_neg (by decide), if_neg (by decide), if_neg (by decide), if_neg (by decide), if_neg (by decide), if_neg (by decide), if_pos rfl, rz_c_fail, ra_kI, e_24_181, rz_00]
      have ml : ra_C 168 [.ref 86] ψ = ra_I 0 (ra_ui (ra_ui ψ 86 4 1) 86 5 (ψ.1 86 10)) := by rw [e_168, m, if_pos rfl, m9, if_pos (by decide), e_145, ra_kI, rz_b01]
      rw [cl, ml]
      exact Or.inr ⟨_, _, rfl, rfl, rz_Fl_of h _, (rz_fn_fail _ _ _).gct, (rz_fp_fail _ _ _).gmt⟩
    · have c : τ.1 2 5 = (14 : Int32) := c2
      have m9 : ψ.1 86 9 = (9 : Int32) := m6 rfl
      have cl : ra_D (ra_lay, none, 99999, ra_m24) 8 [some (.ref 1), o1, some (.ref 29), some (.int (nI i)), o4] [] τ = ra_I 0 (ra_ui (ra_ui τ 1 2 1) 1 3 (τ.1 2 6)) := by rw [e_24_8, if_pos i8, c, if_neg (by decide), if_neg (by decide), if_neg (by decide), if_neg (by decide), if_neg (by decide), if_neg (by decide), if_neg (by decide), if_neg (by decide), if_neg (by decide), if_pos rfl, rz_c_fail, ra_kI, e_24_181, rz_00]
      have ml : ra_C 168 [.ref 86] ψ = ra_I 0 (ra_ui (ra_ui ψ 86 4 1) 86 5 (ψ.1 86 10)) := by rw [e_168, m, if_pos rfl, m9, if_pos (by decide), e_145, ra_kI, rz_b01]
      rw [cl, ml]
      exact Or.inr ⟨_, _, rfl, rfl, rz_Fl_of h _, (rz_fn_fail _ _ _).gct, (rz_fp_fail _ _ _).gmt⟩
    · have c : τ.1 2 5 = (15 : Int32) := c2
      have m9 : ψ.1 86 9 = (10 : Int32) := m6 rfl
      have cl : ra_D (ra_lay, none, 99999, ra_m24) 8 [some (.ref 1), o1, some (.ref 29), some (.int (nI i)), o4] [] τ = ra_I 0 (ra_ui (ra_ui τ 1 2 1) 1 3 (τ.1 2 6)) := by rw [e_24_8, if_pos i8, c, if_neg (by decide), if_neg (by decide), if_neg (by decide), if_neg (by decide), if_neg (by decide), if_neg (by decide), if_neg (by decide), if_neg (by decide), if_neg (by decide), if_neg (by decide), if_pos rfl, rz_c_fail, ra_kI, e_24_181, rz_00]
      have ml : ra_C 168 [.ref 86] ψ = ra_I 0 (ra_ui (ra_ui ψ 86 4 1) 86 5 (ψ.1 86 10)) := by rw [e_168, m, if_pos rfl, m9, if_pos (by decide), e_145, ra_kI, rz_b01]
      rw [cl, ml]
      exact Or.inr ⟨_, _, rfl, rfl, rz_Fl_of h _, (rz_fn_fail _ _ _).gct, (rz_fp_fail _ _ _).gmt⟩
  · have cc : τ.1 2 5 = nI k1 := by rw [c2]; exact congrArg nI (if_neg z)
    have no : ∀ c : Nat, 6 ≤ c → c < 100 → ¬ nI k1 = nI c := fun c h1 h2 q => by have := rz_nI_inj (by omega) (by omega) q; omega
    have mk : ¬ ψ.1 86 8 = (1 : Int32) := fun q => by
      rw [m1] at q
      have l := rz_km_cases (k := (k1, w)) c1
      have e := rz_nI_inj (b := 1) (by rcases l with q | q | q | q | q | q | q <;> omega) (by omega) q
      dsimp only at l
      omega
    have cl : ra_D (ra_lay, none, 99999, ra_m24) 8 [some (.ref 1), o1, some (.ref 29), some (.int (nI i)), o4] [] τ = ra_I 0 (ra_ui (ra_ui τ 1 2 1) 1 3 (τ.1 2 6)) := by rw [e_24_8, if_pos i8, cc, if_neg (show ¬ nI k1 = (0 : Int32) from fun q => hk (rz_nI_inj (b := 0) (by omega) (by omega) q)), if_neg (show ¬ nI k1 = (6 : Int32) from no 6 (by omega) (by omega)), if_neg (show ¬ nI k1 = (7 : Int32) from no 7 (by omega) (by omega)), if_neg (show ¬ nI k1 = (8 : Int32) from no 8 (by omega) (by omega)), if_neg (show ¬ nI k1 = (9 : Int32) from no 9 (by omega) (by omega)), if_neg (show ¬ nI k1 = (10 : Int32) from no 10 (by omega) (by omega)), if_neg (show ¬ nI k1 = (11 : Int32) from no 11 (by omega) (by omega)), if_neg (show ¬ nI k1 = (12 : Int32) from no 12 (by omega) (by omega)), if_neg (show ¬ nI k1 = (13 : Int32) from no 13 (by omega) (by omega)), if_neg (show ¬ nI k1 = (14 : Int32) from no 14 (by omega) (by omega)), if_neg (show ¬ nI k1 = (15 : Int32) from no 15 (by omega) (by omega)), if_neg (show ¬ nI k1 = (16 : Int32) from no 16 (by omega) (by omega)), rz_c_fail, ra_kI, e_24_181, rz_00]
    have ml : ra_C 168 [.ref 86] ψ = ra_I 0 (ra_ui (ra_ui ψ 86 4 1) 86 5 (ψ.1 86 10)) := by rw [e_168, if_neg mk, e_145, ra_kI, rz_b01]
    rw [cl, ml]
    exact Or.inr ⟨_, _, rfl, rfl, rz_Fl_of h _, (rz_fn_fail _ _ _).gct, (rz_fp_fail _ _ _).gmt⟩
end RZLN
