-- ===== text: the end of a line =====
section RZN
variable {t : Nat → Nat} {N n : Nat} {k : Nat × Nat} {τ ψ : ra_S}
theorem rz_semi (h : rz_J t N n k τ ψ) : (τ.1 2 5 = (5 : Int32) ↔ k.1 = 5) ∧ ra_C 152 [.ref 86, .int 59] ψ = ra_I (if k.1 = 5 then 1 else 0) ψ := by
  obtain ⟨c1, c2, c3, c4, c5⟩ := rz_Kc_kd h.2.2.1
  obtain ⟨m1, m2, m3, m4, m5, m6⟩ := rz_Km_kd h.2.2.2.1
  have b1 : rz_kc k = 5 ↔ k.1 = 5 := by unfold rz_kc; split <;> omega
  have kcl := rz_kc_lt h.2.2.1
  have kml : rz_km k < 100 := by rcases rz_km_cases c1 with q | q | q | q | q | q | q <;> omega
  refine ⟨by rw [c2, ← b1]; exact ⟨fun q => rz_nI_inj (b := 5) (by omega) (by omega) q, fun q => by rw [q]; rfl⟩, ?_⟩
  rw [e_152, m1, show (4 : Int32) = nI 4 from rfl, rz_lit (by omega) (by omega)]
  by_cases z : k.1 = 5
  · have b2 : rz_km k = 4 := by rcases rz_km_cases c1 with q | q | q | q | q | q | q <;> omega
    rw [if_pos b2, m5 z, if_pos (show nI 59 = (59 : Int32) from rfl), if_pos z]
  · by_cases y : k.1 = 4
    · have b2 : rz_km k = 4 := by rcases rz_km_cases c1 with q | q | q | q | q | q | q <;> omega
      rw [if_pos b2, m4 y, if_neg (by decide), if_neg z]
    · have b2 : ¬ rz_km k = 4 := by rcases rz_km_cases c1 with q | q | q | q | q | q | q <;> omega
      rw [if_neg b2, if_neg z]
/-- a line and what ends it -/
theorem rz_lend {e f : Option ((Option Value ⊕ (ra_L × List Value)) × ra_S)} (h : rz_Ln t N n e f τ ψ) (o1 : Option Value) (v3 : Int32) :
    (∃ (υ φ : ra_S) (n' : Nat) (k' : Nat × Nat) (o4 : Option Value), e.bind (ra_ki fun x s => ra_D (ra_lay, none, 99999, ra_m24) 181 [some (.ref 1), o1, some (.ref 29), some (.int v3), some (.int x)] [] s) = ra_D (ra_lay, none, 99999, ra_m24) 8 [some (.ref 1), o1, some (.ref 29), some (.int (v3 + 1)), o4] [] (ra_ui υ 1 4 (υ.1 1 4 + 1)) ∧ f.bind (ra_ki fun x s => ra_D (ra_lay, none, 99999, ra_m168) 105 [some (.ref 86), some (.int x)] [] s) = ra_I 1 φ ∧ rz_J t N n' k' υ φ ∧ rz_aft n n' k' ∧ rz_Q n' υ φ ∧ rz_gct τ υ ∧ rz_gmt ψ φ) ∨
    (∃ υ φ : ra_S, e.bind (ra_ki fun x s => ra_D (ra_lay, none, 99999, ra_m24) 181 [some (.ref 1), o1, some (.ref 29), some (.int v3), some (.int x)] [] s) = ra_I 0 υ ∧ f.bind (ra_ki fun x s => ra_D (ra_lay, none, 99999, ra_m168) 105 [some (.ref 86), some (.int x)] [] s) = ra_I 0 φ ∧ rz_Fl υ φ ∧ rz_gct τ υ ∧ rz_gmt ψ φ) := by
  rcases h with ⟨υ, φ, n', k', rfl, rfl, J, nn, Q, g1, g2⟩ | ⟨υ, φ, rfl, rfl, a3, a4, a5⟩
  · obtain ⟨s1, s2⟩ := rz_semi J
    rw [ra_kI, ra_kI, e_24_181, rz_10, e_168_105, rz_10, e_38, s2, ra_kI]
    by_cases z : k'.1 = 5
    · obtain ⟨n2, k2, υ2, φ2, e1, e2, J2, aft, f1, f2⟩ := rz_stepJ J
      rw [if_pos (s1.mpr z), rz_t z, e1, ra_kV, ra_kI, rz_10, e2, ra_kV]
      exact Or.inl ⟨υ2, φ2, n2, k2, _, rfl, rfl, J2, ⟨Nat.le_trans nn aft.1, fun q => Nat.lt_of_le_of_lt nn (aft.2 q)⟩, rz_Q_eq Q aft.1 f1.fn f2.fp, g1.tr f1.fn.gct, g2.tr f2.fp.gmt⟩
    · rw [if_neg (fun q => z (s1.mp q)), rz_f z, rz_c_fail, ra_kI, rz_b01, ra_kI, rz_00, e_145, ra_kI, rz_b01]
      exact Or.inr ⟨_, _, rfl, rfl, rz_Fl_of J _, g1.tr (rz_fn_fail _ _ _).gct, g2.tr (rz_fp_fail _ _ _).gmt⟩
  · rw [ra_kI, ra_kI, e_24_181, rz_00, e_168_105, rz_00]
    exact Or.inr ⟨υ, φ, rfl, rfl, a3, a4, a5⟩
end RZN
