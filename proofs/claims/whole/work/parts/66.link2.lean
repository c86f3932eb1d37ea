-- ===== text: a player's line, who is seen or heard; written by wip/whole/gen66.py =====
section RZK2
variable {t : Nat → Nat} {N n : Nat} {k : Nat × Nat} {τ ψ : ra_S}
theorem rz_link0 (h : rz_J t N n k τ ψ) {np : Nat} (hQ : rz_Q1 n np τ ψ) (hkk : τ.1 2 5 = nI (13 + 0)) :
    (∃ (υ φ : ra_S) (n' : Nat) (k' : Nat × Nat), ra_C 33 [.ref 1, .int (nI np)] τ = ra_I 1 υ ∧ ra_C 165 [.ref 86, .int 1] ψ = ra_I 1 φ ∧ rz_J t N n' k' υ φ ∧ rz_aft n n' k' ∧ rz_Q1 n' np υ φ ∧ rz_gct τ υ ∧ rz_gmt ψ φ ∧ υ.1 1 7 = τ.1 1 7) ∨
    (∃ υ φ : ra_S, ra_C 33 [.ref 1, .int (nI np)] τ = ra_I 0 υ ∧ ra_C 165 [.ref 86, .int 1] ψ = ra_I 0 φ ∧ rz_Fl υ φ ∧ rz_gct τ υ ∧ rz_gmt ψ φ) := by
  obtain ⟨nb, nl, nw, q1, q2, q3, ⟨d1, d2, d3⟩, q5, q6⟩ := id hQ
  obtain ⟨Lk, g1, g2, g3, g4, g5⟩ := id q6
  have hnp : np + 1 ≤ 8 := d3.2.2.1
  have hN := h.1.2.1
  have hnN := h.1.2.2.2.1
  have s5 := g5 np (by omega)
  have s50 := s5.1.1
  have s51 := s5.2.1.1
  have LC : ∀ υ : ra_S, (∀ c, 5 ≤ c ∧ c ≤ 9 → υ.1 c = τ.1 c) → rz_LkC Lk υ := fun υ hυ => ⟨by rw [hυ 5 (by omega)]; exact g1, by omega, fun i x hx => by
    obtain ⟨u1, u2, u3, u4, u5, u6, u7, u8⟩ := g3 i x hx
    rw [hυ 6 (by omega), hυ 7 (by omega), hυ 8 (by omega), hυ 9 (by omega)]
    exact ⟨u1, u2, u3, u4, by omega, u6, u7, by omega⟩⟩
  obtain ⟨s, hs⟩ : ∃ s, s = (rz_sub Lk np 0).length := ⟨_, rfl⟩
  have t0 : ψ.1 99 np = nI s := by rw [hs]; exact s5.1.2
  have s4 : s ≤ 4 := by rw [hs]; assumption
  have room := rz_lk_room (LC τ (fun _ _ => rfl)) (p := np) (kd := 0) (by omega) (by omega)
  rw [e_33, hkk, room, ra_kI, e_165, if_neg (show ¬ (1 : Int32) = 0 by decide), d2, rz_ig (by omega) (by omega), nI_clamp (by omega), t0, e_165_24]
  by_cases z : s = 4
  · rw [if_pos (show nI s = (4 : Int32) by rw [z]; rfl), rz_f (by omega), rz_c_fail, ra_kI, rz_b01, e_145, ra_kI, rz_b01]
    exact Or.inr ⟨_, _, rfl, rfl, rz_Fl_of h _, (rz_fn_fail _ _ _).gct, (rz_fp_fail _ _ _).gmt⟩
  rw [if_neg (show ¬ nI s = (4 : Int32) from fun q => z (rz_nI_inj (b := 4) (by omega) (by omega) q)), rz_t (by omega)]
  obtain ⟨n1, k1, τ1, ψ1, e1, e2, J1, aft1, f1, f2, pl, pl1, pl2, pl3, pl4⟩ := rz_stepK h
  rw [e1, ra_kV, e2, ra_kV]
  obtain ⟨c1, c2, c3, c4, c5⟩ := rz_Kc_kd J1.2.2.1
  obtain ⟨m1, m2, m3, m4, m5, m6⟩ := rz_Km_kd J1.2.2.2.1
  have b1 : rz_kc k1 = 3 ↔ k1.1 = 3 := by unfold rz_kc; split <;> omega
  have b2 : rz_km k1 = 2 ↔ k1.1 = 3 := by rcases rz_km_cases c1 with q | q | q | q | q | q | q <;> omega
  have kcl := rz_kc_lt J1.2.2.1
  have kml : rz_km k1 < 100 := by rcases rz_km_cases c1 with q | q | q | q | q | q | q <;> omega
  have x1 : τ1.1 2 5 = (3 : Int32) ↔ k1.1 = 3 := by rw [c2, ← b1]; exact ⟨fun q => rz_nI_inj (b := 3) (by omega) (by omega) q, fun q => by rw [q]; rfl⟩
  have x2 : ψ1.1 86 8 = (2 : Int32) ↔ k1.1 = 3 := by rw [m1, ← b2]; exact ⟨fun q => rz_nI_inj (b := 2) (by omega) (by omega) q, fun q => by rw [q]; rfl⟩
  by_cases y : k1.1 = 3
  case neg =>
    rw [if_neg (fun q => y (x1.mp q)), if_neg (fun q => y (x2.mp q)), rz_c_fail, ra_kI, rz_b01, e_145, ra_kI, rz_b01]
    exact Or.inr ⟨_, _, rfl, rfl, rz_Fl_of J1 _, f1.fn.gct.tr (rz_fn_fail _ _ _).gct, f2.fp.gmt.tr (rz_fp_fail _ _ _).gmt⟩
  have hw := rz_Kc_nm J1.2.2.1 y
  have plt := pl4 (by omega)
  have n1N := J1.1.2.2.2.1
  obtain ⟨r, er, hr⟩ := rz_lk_has (LC τ1 (fun c hc => f1.1 c (by omega))) (p := np) (kd := 0) (w := k1.2) (by omega) (by omega) hw
  obtain ⟨r2, er2, hr2⟩ := rz_m_fn (S := rz_sub Lk np 0) (ψ := ψ1) (a := 8 * np + 4 * 0) (w := k1.2) (by omega) (by omega) (fun i x hx => by
    have u := s5.2.2 0 (by omega) i x hx
    have mm : x ∈ Lk := (List.mem_filter.mp (List.mem_of_getElem? hx)).1
    obtain ⟨i', hi'⟩ := List.mem_iff_getElem?.mp mm
    exact ⟨by rw [f2.1 97 (by decide)]; exact u.1, (g3 i' x hi').2.2.2.2.2.2.1⟩) hw
  rw [← hs] at er2
  have ad : (8 : Int32) * nI np + (0 : Int32) = nI (8 * np + 4 * 0) := by rw [show (8 : Int32) * nI np = nI (8 * np) from pk_mul 8 np]; exact nI_add (8 * np) (4 * 0)
  rw [if_pos (x1.mpr y), if_pos (x2.mpr y), c5 y, er, ra_kI, if_neg (show ¬ (1 : Int32) = 0 by decide), e_165_67, m3 y, ad, er2, ra_kI, pl1]
  have same : (r = 1 ∧ ¬ r2 < 0) ∨ (r = 0 ∧ r2 < 0) := by
    rcases hr with ⟨h1, x, hx, hxw⟩ | ⟨h1, hn⟩
    · rcases hr2 with ⟨h2, -⟩ | ⟨-, hn2⟩
      · exact Or.inl ⟨h1, h2⟩
      · exact absurd hxw (hn2 x hx)
    · rcases hr2 with ⟨-, x, hx, hxw⟩ | ⟨h2, -⟩
      · exact absurd hxw (hn x hx)
      · exact Or.inr ⟨h1, h2⟩
  clear hr hr2
  rcases same with ⟨rfl, h2⟩ | ⟨rfl, h2⟩
  · rw [rz_10, if_neg h2, rz_c_fail, ra_kI, rz_b01, e_145, ra_kI, rz_b01]
    exact Or.inr ⟨_, _, rfl, rfl, rz_Fl_of J1 _, f1.fn.gct.tr (rz_fn_fail _ _ _).gct, f2.fp.gmt.tr (rz_fp_fail _ _ _).gmt⟩
  have u5 : τ1.1 5 0 = nI Lk.length := by rw [f1.1 5 (by decide)]; exact g1
  have v9 : ψ1.1 99 np = nI s := by rw [f2.1 99 (by decide)]; exact t0
  rw [rz_00, if_pos h2, e_23, c5 y, u5, if_neg (nI_pos (by omega)), if_pos (show nI Lk.length < (64 : Int32) from nI_lt (b := 64) (by omega) (by omega)), rz_ig (by omega) (by omega), rz_ig (by omega) (by omega), rz_ig (by omega) (by omega), rz_ig (by omega) (by omega), nI_clamp (by omega), ra_kV, nI_1, nI_add, rz_ig (by omega) (by omega), rz_ig (by omega) (by omega), if_neg (show ¬ (1 : Int32) = 0 by decide), rz_ig (by omega) (by omega), rz_ig (by omega) (by omega), nI_clamp (by omega), nI_clamp (by omega), m3 y, pl2, v9, nI_1]
  obtain ⟨τ2, hτ2⟩ : ∃ τ2 : ra_S, τ2 = ra_ui (ra_ui (ra_ui (ra_ui (ra_ui τ1 6 Lk.length (nI np)) 7 Lk.length (nI (13 + 0))) 8 Lk.length (nI k1.2)) 9 Lk.length (nI pl)) 5 0 (nI (Lk.length + 1)) := ⟨_, rfl⟩
  obtain ⟨ψ2, hψ2⟩ : ∃ ψ2 : ra_S, ψ2 = ra_ui (ra_ui (ra_ui ψ1 97 (8 * np + 4 * 0 + s) (nI k1.2)) 98 (8 * np + 4 * 0 + s) (nI pl)) 99 np (nI (s + 1)) := ⟨_, rfl⟩
  rw [← hτ2, ← hψ2]
  have J2 : rz_J t N n1 k1 τ2 ψ2 := by
    refine rz_J_m (rz_J_c J1 (fun c hc => ?_) (by rw [hτ2]; exact ⟨rfl, rfl⟩)) (fun j hj => ?_) ⟨?_, ?_⟩ (by rw [hψ2]; exact ⟨rfl, rfl⟩)
    · rw [hτ2, ra_ui_1 c (by omega), ra_ui_1 c (by omega), ra_ui_1 c (by omega), ra_ui_1 c (by omega), ra_ui_1 c (by omega)]
    · rw [hψ2, ra_ui_1 86 (by decide), ra_ui_1 86 (by decide), ra_ui_1 86 (by decide)]
    · rw [hψ2, ra_ui_1 87 (by decide), ra_ui_1 87 (by decide), ra_ui_1 87 (by decide)]
    · rw [hψ2, ra_ui_1 88 (by decide), ra_ui_1 88 (by decide), ra_ui_1 88 (by decide)]
  obtain ⟨n3, k3, τ3, ψ3, e3, e4, J3, aft3, f3, f4⟩ := rz_stepJ J2
  rw [e3, ra_kV, e4, ra_kV]
  have nn : n ≤ n3 := Nat.le_trans aft1.1 aft3.1
  have C : ∀ c, c ≠ 2 ∧ ¬ (5 ≤ c ∧ c ≤ 9) → τ3.1 c = τ.1 c := fun c hc => by
    rw [f3.1 c hc.1, hτ2, ra_ui_1 c (by omega), ra_ui_1 c (by omega), ra_ui_1 c (by omega), ra_ui_1 c (by omega), ra_ui_1 c (by omega), f1.1 c hc.1]
  have M : ∀ c, c ≠ 86 ∧ c ≠ 97 ∧ c ≠ 98 ∧ c ≠ 99 → ψ3.1 c = ψ.1 c := fun c hc => by
    rw [f4.1 c hc.1, hψ2, ra_ui_1 c hc.2.2.2, ra_ui_1 c hc.2.2.1, ra_ui_1 c hc.2.1, f2.1 c hc.1]
  have M86 : ∀ j, 11 ≤ j → ψ3.1 86 j = ψ.1 86 j := fun j hj => by
    rw [f4.2.1 j (by omega), hψ2, ra_ui_1 86 (by decide), ra_ui_1 86 (by decide), ra_ui_1 86 (by decide), f2.2.1 j (by omega)]
  have gc : rz_gct τ τ3 := by
    refine (f1.fn.gct.tr ?_).tr f3.fn.gct
    rw [hτ2]
    exact ((((rz_gct_ui _ (by omega)).tr (rz_gct_ui _ (by omega))).tr (rz_gct_ui _ (by omega))).tr (rz_gct_ui _ (by omega))).tr (rz_gct_ui _ (by omega))
  have gm : rz_gmt ψ ψ3 := by
    refine (f2.fp.gmt.tr ?_).tr f4.fp.gmt
    rw [hψ2]
    exact ((rz_gmt_ui _ (by omega)).tr (rz_gmt_ui _ (by omega))).tr (rz_gmt_ui _ (by omega))
  refine Or.inl ⟨τ3, ψ3, n3, k3, rfl, rfl, J3, aft1.tr aft3, ⟨nb, nl, nw, ?_⟩, gc, gm, by rw [C 1 (by omega)]⟩
  simp only [C 29 (by decide), C 30 (by decide), C 31 (by decide), C 32 (by decide), C 33 (by decide), C 34 (by decide), C 35 (by decide), C 36 (by decide), C 37 (by decide), C 38 (by decide), C 39 (by decide), C 40 (by decide), C 41 (by decide), C 42 (by decide), C 43 (by decide), C 44 (by decide), C 45 (by decide), C 46 (by decide), C 47 (by decide), M 89 (by decide), M 90 (by decide), M 91 (by decide), M 92 (by decide), M 93 (by decide), M 96 (by decide), M 100 (by decide), M86 18 (by decide), M86 19 (by decide), M86 20 (by decide), M86 21 (by decide), M86 22 (by decide), M86 23 (by decide), M86 24 (by decide)]
  refine ⟨q1, rz_Qb_mono q2 nn, q3, ⟨d1, d2, d3⟩, q5, ?_⟩
  have ar : ∀ (c : Nat) (v : Int32), 6 ≤ c ∧ c ≤ 9 → (∀ i, τ2.1 c i = if i = Lk.length then v else τ1.1 c i) → ∀ i, τ3.1 c i = if i = Lk.length then v else τ.1 c i := fun c v hc hh i => by
    rw [f3.1 c (by omega), hh i, f1.1 c (by omega)]
  refine rz_Qk1_add (kd := 0) (w := k1.2) (pl := pl) (s := s) (by omega) hw pl3 (by have := aft3.1; omega) hs (by omega) g2 g3 g4 g5 (by rw [f3.1 5 (by decide), hτ2, ra_ui_get, if_pos ⟨rfl, rfl⟩]) (ar 6 _ (by omega) (fun i => ?_)) (ar 7 _ (by omega) (fun i => ?_)) (ar 8 _ (by omega) (fun i => ?_)) (ar 9 _ (by omega) (fun i => ?_)) (fun i => ?_) (fun i => ?_) (fun p => ?_) (fun p => ?_)
  · rw [hτ2, ra_ui_1 6 (by decide), ra_ui_1 6 (by decide), ra_ui_1 6 (by decide), ra_ui_1 6 (by decide), ra_ui_get]
    simp only [true_and]
  · rw [hτ2, ra_ui_1 7 (by decide), ra_ui_1 7 (by decide), ra_ui_1 7 (by decide), ra_ui_get, ra_ui_1 7 (by decide)]
    simp only [true_and]
  · rw [hτ2, ra_ui_1 8 (by decide), ra_ui_1 8 (by decide), ra_ui_get, ra_ui_1 8 (by decide), ra_ui_1 8 (by decide)]
    simp only [true_and]
  · rw [hτ2, ra_ui_1 9 (by decide), ra_ui_get, ra_ui_1 9 (by decide), ra_ui_1 9 (by decide), ra_ui_1 9 (by decide)]
    simp only [true_and]
  · rw [f4.1 97 (by decide), hψ2, ra_ui_1 97 (by decide), ra_ui_1 97 (by decide), ra_ui_get, f2.1 97 (by decide)]
    simp only [true_and]
  · rw [f4.1 98 (by decide), hψ2, ra_ui_1 98 (by decide), ra_ui_get, ra_ui_1 98 (by decide), f2.1 98 (by decide)]
    simp only [true_and]
  · rw [f4.1 99 (by decide), hψ2, ra_ui_get, ra_ui_1 99 (by decide), ra_ui_1 99 (by decide), f2.1 99 (by decide)]
    simp only [true_and, and_true]
  · rw [if_neg (by omega)]
theorem rz_link1 (h : rz_J t N n k τ ψ) {np : Nat} (hQ : rz_Q1 n np τ ψ) (hkk : τ.1 2 5 = nI (13 + 1)) :
    (∃ (υ φ : ra_S) (n' : Nat) (k' : Nat × Nat), ra_C 33 [.ref 1, .int (nI np)] τ = ra_I 1 υ ∧ ra_C 165 [.ref 86, .int 0] ψ = ra_I 1 φ ∧ rz_J t N n' k' υ φ ∧ rz_aft n n' k' ∧ rz_Q1 n' np υ φ ∧ rz_gct τ υ ∧ rz_gmt ψ φ ∧ υ.1 1 7 = τ.1 1 7) ∨
    (∃ υ φ : ra_S, ra_C 33 [.ref 1, .int (nI np)] τ = ra_I 0 υ ∧ ra_C 165 [.ref 86, .int 0] ψ = ra_I 0 φ ∧ rz_Fl υ φ ∧ rz_gct τ υ ∧ rz_gmt ψ φ) := by
  obtain ⟨nb, nl, nw, q1, q2, q3, ⟨d1, d2, d3⟩, q5, q6⟩ := id hQ
  obtain ⟨Lk, g1, g2, g3, g4, g5⟩ := id q6
  have hnp : np + 1 ≤ 8 := d3.2.2.1
  have hN := h.1.2.1
  have hnN := h.1.2.2.2.1
  have s5 := g5 np (by omega)
  have s50 := s5.1.1
  have s51 := s5.2.1.1
  have LC : ∀ υ : ra_S, (∀ c, 5 ≤ c ∧ c ≤ 9 → υ.1 c = τ.1 c) → rz_LkC Lk υ := fun υ hυ => ⟨by rw [hυ 5 (by omega)]; exact g1, by omega, fun i x hx => by
    obtain ⟨u1, u2, u3, u4, u5, u6, u7, u8⟩ := g3 i x hx
    rw [hυ 6 (by omega), hυ 7 (by omega), hυ 8 (by omega), hυ 9 (by omega)]
    exact ⟨u1, u2, u3, u4, by omega, u6, u7, by omega⟩⟩
  obtain ⟨s, hs⟩ : ∃ s, s = (rz_sub Lk np 1).length := ⟨_, rfl⟩
  have t0 : ψ.1 100 np = nI s := by rw [hs]; exact s5.2.1.2
  have s4 : s ≤ 4 := by rw [hs]; assumption
  have room := rz_lk_room (LC τ (fun _ _ => rfl)) (p := np) (kd := 1) (by omega) (by omega)
  rw [e_33, hkk, room, ra_kI, e_165, if_pos (show (0 : Int32) = 0 from rfl), d2, rz_ig (by omega) (by omega), nI_clamp (by omega), t0, e_165_24]
  by_cases z : s = 4
  · rw [if_pos (show nI s = (4 : Int32) by rw [z]; rfl), rz_f (by omega), rz_c_fail, ra_kI, rz_b01, e_145, ra_kI, rz_b01]
    exact Or.inr ⟨_, _, rfl, rfl, rz_Fl_of h _, (rz_fn_fail _ _ _).gct, (rz_fp_fail _ _ _).gmt⟩
  rw [if_neg (show ¬ nI s = (4 : Int32) from fun q => z (rz_nI_inj (b := 4) (by omega) (by omega) q)), rz_t (by omega)]
  obtain ⟨n1, k1, τ1, ψ1, e1, e2, J1, aft1, f1, f2, pl, pl1, pl2, pl3, pl4⟩ := rz_stepK h
  rw [e1, ra_kV, e2, ra_kV]
  obtain ⟨c1, c2, c3, c4, c5⟩ := rz_Kc_kd J1.2.2.1
  obtain ⟨m1, m2, m3, m4, m5, m6⟩ := rz_Km_kd J1.2.2.2.1
  have b1 : rz_kc k1 = 3 ↔ k1.1 = 3 := by unfold rz_kc; split <;> omega
  have b2 : rz_km k1 = 2 ↔ k1.1 = 3 := by rcases rz_km_cases c1 with q | q | q | q | q | q | q <;> omega
  have kcl := rz_kc_lt J1.2.2.1
  have kml : rz_km k1 < 100 := by rcases rz_km_cases c1 with q | q | q | q | q | q | q <;> omega
  have x1 : τ1.1 2 5 = (3 : Int32) ↔ k1.1 = 3 := by rw [c2, ← b1]; exact ⟨fun q => rz_nI_inj (b := 3) (by omega) (by omega) q, fun q => by rw [q]; rfl⟩
  have x2 : ψ1.1 86 8 = (2 : Int32) ↔ k1.1 = 3 := by rw [m1, ← b2]; exact ⟨fun q => rz_nI_inj (b := 2) (by omega) (by omega) q, fun q => by rw [q]; rfl⟩
  by_cases y : k1.1 = 3
  case neg =>
    rw [if_neg (fun q => y (x1.mp q)), if_neg (fun q => y (x2.mp q)), rz_c_fail, ra_kI, rz_b01, e_145, ra_kI, rz_b01]
    exact Or.inr ⟨_, _, rfl, rfl, rz_Fl_of J1 _, f1.fn.gct.tr (rz_fn_fail _ _ _).gct, f2.fp.gmt.tr (rz_fp_fail _ _ _).gmt⟩
  have hw := rz_Kc_nm J1.2.2.1 y
  have plt := pl4 (by omega)
  have n1N := J1.1.2.2.2.1
  obtain ⟨r, er, hr⟩ := rz_lk_has (LC τ1 (fun c hc => f1.1 c (by omega))) (p := np) (kd := 1) (w := k1.2) (by omega) (by omega) hw
  obtain ⟨r2, er2, hr2⟩ := rz_m_fn (S := rz_sub Lk np 1) (ψ := ψ1) (a := 8 * np + 4 * 1) (w := k1.2) (by omega) (by omega) (fun i x hx => by
    have u := s5.2.2 1 (by omega) i x hx
    have mm : x ∈ Lk := (List.mem_filter.mp (List.mem_of_getElem? hx)).1
    obtain ⟨i', hi'⟩ := List.mem_iff_getElem?.mp mm
    exact ⟨by rw [f2.1 97 (by decide)]; exact u.1, (g3 i' x hi').2.2.2.2.2.2.1⟩) hw
  rw [← hs] at er2
  have ad : (8 : Int32) * nI np + (4 : Int32) = nI (8 * np + 4 * 1) := by rw [show (8 : Int32) * nI np = nI (8 * np) from pk_mul 8 np]; exact nI_add (8 * np) (4 * 1)
  rw [if_pos (x1.mpr y), if_pos (x2.mpr y), c5 y, er, ra_kI, if_pos (show (0 : Int32) = 0 from rfl), e_165_67, m3 y, ad, er2, ra_kI, pl1]
  have same : (r = 1 ∧ ¬ r2 < 0) ∨ (r = 0 ∧ r2 < 0) := by
    rcases hr with ⟨h1, x, hx, hxw⟩ | ⟨h1, hn⟩
    · rcases hr2 with ⟨h2, -⟩ | ⟨-, hn2⟩
      · exact Or.inl ⟨h1, h2⟩
      · exact absurd hxw (hn2 x hx)
    · rcases hr2 with ⟨-, x, hx, hxw⟩ | ⟨h2, -⟩
      · exact absurd hxw (hn x hx)
      · exact Or.inr ⟨h1, h2⟩
  clear hr hr2
  rcases same with ⟨rfl, h2⟩ | ⟨rfl, h2⟩
  · rw [rz_10, if_neg h2, rz_c_fail, ra_kI, rz_b01, e_145, ra_kI, rz_b01]
    exact Or.inr ⟨_, _, rfl, rfl, rz_Fl_of J1 _, f1.fn.gct.tr (rz_fn_fail _ _ _).gct, f2.fp.gmt.tr (rz_fp_fail _ _ _).gmt⟩
  have u5 : τ1.1 5 0 = nI Lk.length := by rw [f1.1 5 (by decide)]; exact g1
  have v9 : ψ1.1 100 np = nI s := by rw [f2.1 100 (by decide)]; exact t0
  rw [rz_00, if_pos h2, e_23, c5 y, u5, if_neg (nI_pos (by omega)), if_pos (show nI Lk.length < (64 : Int32) from nI_lt (b := 64) (by omega) (by omega)), rz_ig (by omega) (by omega), rz_ig (by omega) (by omega), rz_ig (by omega) (by omega), rz_ig (by omega) (by omega), nI_clamp (by omega), ra_kV, nI_1, nI_add, rz_ig (by omega) (by omega), rz_ig (by omega) (by omega), if_pos (show (0 : Int32) = 0 from rfl), rz_ig (by omega) (by omega), rz_ig (by omega) (by omega), nI_clamp (by omega), nI_clamp (by omega), m3 y, pl2, v9, nI_1]
  obtain ⟨τ2, hτ2⟩ : ∃ τ2 : ra_S, τ2 = ra_ui (ra_ui (ra_ui (ra_ui (ra_ui τ1 6 Lk.length (nI np)) 7 Lk.length (nI (13 + 1))) 8 Lk.length (nI k1.2)) 9 Lk.length (nI pl)) 5 0 (nI (Lk.length + 1)) := ⟨_, rfl⟩
  obtain ⟨ψ2, hψ2⟩ : ∃ ψ2 : ra_S, ψ2 = ra_ui (ra_ui (ra_ui ψ1 97 (8 * np + 4 * 1 + s) (nI k1.2)) 98 (8 * np + 4 * 1 + s) (nI pl)) 100 np (nI (s + 1)) := ⟨_, rfl⟩
  rw [← hτ2, ← hψ2]
  have J2 : rz_J t N n1 k1 τ2 ψ2 := by
    refine rz_J_m (rz_J_c J1 (fun c hc => ?_) (by rw [hτ2]; exact ⟨rfl, rfl⟩)) (fun j hj => ?_) ⟨?_, ?_⟩ (by rw [hψ2]; exact ⟨rfl, rfl⟩)
    · rw [hτ2, ra_ui_1 c (by omega), ra_ui_1 c (by omega), ra_ui_1 c (by omega), ra_ui_1 c (by omega), ra_ui_1 c (by omega)]
    · rw [hψ2, ra_ui_1 86 (by decide), ra_ui_1 86 (by decide), ra_ui_1 86 (by decide)]
    · rw [hψ2, ra_ui_1 87 (by decide), ra_ui_1 87 (by decide), ra_ui_1 87 (by decide)]
    · rw [hψ2, ra_ui_1 88 (by decide), ra_ui_1 88 (by decide), ra_ui_1 88 (by decide)]
  obtain ⟨n3, k3, τ3, ψ3, e3, e4, J3, aft3, f3, f4⟩ := rz_stepJ J2
  rw [e3, ra_kV, e4, ra_kV]
  have nn : n ≤ n3 := Nat.le_trans aft1.1 aft3.1
  have C : ∀ c, c ≠ 2 ∧ ¬ (5 ≤ c ∧ c ≤ 9) → τ3.1 c = τ.1 c := fun c hc => by
    rw [f3.1 c hc.1, hτ2, ra_ui_1 c (by omega), ra_ui_1 c (by omega), ra_ui_1 c (by omega), ra_ui_1 c (by omega), ra_ui_1 c (by omega), f1.1 c hc.1]
  have M : ∀ c, c ≠ 86 ∧ c ≠ 97 ∧ c ≠ 98 ∧ c ≠ 100 → ψ3.1 c = ψ.1 c := fun c hc => by
    rw [f4.1 c hc.1, hψ2, ra_ui_1 c hc.2.2.2, ra_ui_1 c hc.2.2.1, ra_ui_1 c hc.2.1, f2.1 c hc.1]
  have M86 : ∀ j, 11 ≤ j → ψ3.1 86 j = ψ.1 86 j := fun j hj => by
    rw [f4.2.1 j (by omega), hψ2, ra_ui_1 86 (by decide), ra_ui_1 86 (by decide), ra_ui_1 86 (by decide), f2.2.1 j (by omega)]
  have gc : rz_gct τ τ3 := by
    refine (f1.fn.gct.tr ?_).tr f3.fn.gct
    rw [hτ2]
    exact ((((rz_gct_ui _ (by omega)).tr (rz_gct_ui _ (by omega))).tr (rz_gct_ui _ (by omega))).tr (rz_gct_ui _ (by omega))).tr (rz_gct_ui _ (by omega))
  have gm : rz_gmt ψ ψ3 := by
    refine (f2.fp.gmt.tr ?_).tr f4.fp.gmt
    rw [hψ2]
    exact ((rz_gmt_ui _ (by omega)).tr (rz_gmt_ui _ (by omega))).tr (rz_gmt_ui _ (by omega))
  refine Or.inl ⟨τ3, ψ3, n3, k3, rfl, rfl, J3, aft1.tr aft3, ⟨nb, nl, nw, ?_⟩, gc, gm, by rw [C 1 (by omega)]⟩
  simp only [C 29 (by decide), C 30 (by decide), C 31 (by decide), C 32 (by decide), C 33 (by decide), C 34 (by decide), C 35 (by decide), C 36 (by decide), C 37 (by decide), C 38 (by decide), C 39 (by decide), C 40 (by decide), C 41 (by decide), C 42 (by decide), C 43 (by decide), C 44 (by decide), C 45 (by decide), C 46 (by decide), C 47 (by decide), M 89 (by decide), M 90 (by decide), M 91 (by decide), M 92 (by decide), M 93 (by decide), M 96 (by decide), M 99 (by decide), M86 18 (by decide), M86 19 (by decide), M86 20 (by decide), M86 21 (by decide), M86 22 (by decide), M86 23 (by decide), M86 24 (by decide)]
  refine ⟨q1, rz_Qb_mono q2 nn, q3, ⟨d1, d2, d3⟩, q5, ?_⟩
  have ar : ∀ (c : Nat) (v : Int32), 6 ≤ c ∧ c ≤ 9 → (∀ i, τ2.1 c i = if i = Lk.length then v else τ1.1 c i) → ∀ i, τ3.1 c i = if i = Lk.length then v else τ.1 c i := fun c v hc hh i => by
    rw [f3.1 c (by omega), hh i, f1.1 c (by omega)]
  refine rz_Qk1_add (kd := 1) (w := k1.2) (pl := pl) (s := s) (by omega) hw pl3 (by have := aft3.1; omega) hs (by omega) g2 g3 g4 g5 (by rw [f3.1 5 (by decide), hτ2, ra_ui_get, if_pos ⟨rfl, rfl⟩]) (ar 6 _ (by omega) (fun i => ?_)) (ar 7 _ (by omega) (fun i => ?_)) (ar 8 _ (by omega) (fun i => ?_)) (ar 9 _ (by omega) (fun i => ?_)) (fun i => ?_) (fun i => ?_) (fun p => ?_) (fun p => ?_)
  · rw [hτ2, ra_ui_1 6 (by decide), ra_ui_1 6 (by decide), ra_ui_1 6 (by decide), ra_ui_1 6 (by decide), ra_ui_get]
    simp only [true_and]
  · rw [hτ2, ra_ui_1 7 (by decide), ra_ui_1 7 (by decide), ra_ui_1 7 (by decide), ra_ui_get, ra_ui_1 7 (by decide)]
    simp only [true_and]
  · rw [hτ2, ra_ui_1 8 (by decide), ra_ui_1 8 (by decide), ra_ui_get, ra_ui_1 8 (by decide), ra_ui_1 8 (by decide)]
    simp only [true_and]
  · rw [hτ2, ra_ui_1 9 (by decide), ra_ui_get, ra_ui_1 9 (by decide), ra_ui_1 9 (by decide), ra_ui_1 9 (by decide)]
    simp only [true_and]
  · rw [f4.1 97 (by decide), hψ2, ra_ui_1 97 (by decide), ra_ui_1 97 (by decide), ra_ui_get, f2.1 97 (by decide)]
    simp only [true_and]
  · rw [f4.1 98 (by decide), hψ2, ra_ui_1 98 (by decide), ra_ui_get, ra_ui_1 98 (by decide), f2.1 98 (by decide)]
    simp only [true_and]
  · rw [if_neg (by omega)]
  · rw [f4.1 100 (by decide), hψ2, ra_ui_get, ra_ui_1 100 (by decide), ra_ui_1 100 (by decide), f2.1 100 (by decide)]
    simp only [true_and, and_true]
end RZK2
