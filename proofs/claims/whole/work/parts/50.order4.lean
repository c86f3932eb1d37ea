-- ===== order: change by change =====
theorem rz_bl_va {np : Nat} {m : Int} {L : List Nat} (hL : rz_va np L) {s : Int × Option (Nat × Nat)} (h : rz_Is np m s) : rz_va np (rz_bl L s.2) := by
  obtain ⟨s1, s2⟩ := s
  cases s2 with
  | none => exact hL
  | some ij => exact rz_va_sw hL h.2.2.2.1 h.2.2.2.2
section RZQ
variable {np nb nl nw : Nat} {len : Nat → Nat} {σ : ra_S} {x y : Int32} {a b : Nat}
theorem rz_Is_pj (hB : rz_base np nb nl nw len σ) (hx : rz_in x 0 40) (hy : rz_in y 0 40) (hb : b < 40) {L : List Nat} (hL : rz_va np L) {m : Int} {i : Nat} (hi : i < np) {s : Int × Option (Nat × Nat)} (h : rz_Is np m s) : ∀ d, i + d < np → rz_Is np m (rz_pj (rz_VL σ len np nw x y a b) L i s d)
  | 0, _ => h
  | d + 1, hd => by
    rw [rz_pj]
    exact rz_Is_stp (rz_Is_pj hB hx hy hb hL hi h d (by omega)) hi (by omega) (rz_VL_in hB (rz_va_sw hL hi (by omega)) hx hy hb)
theorem rz_Is_pi (hB : rz_base np nb nl nw len σ) (hx : rz_in x 0 40) (hy : rz_in y 0 40) (hb : b < 40) {L : List Nat} (hL : rz_va np L) {m : Int} {s : Int × Option (Nat × Nat)} (h : rz_Is np m s) : ∀ i, i ≤ np → rz_Is np m (rz_pi (rz_VL σ len np nw x y a b) np L s i)
  | 0, _ => h
  | i + 1, hi => by
    rw [rz_pi]
    exact rz_Is_pj hB hx hy hb hL (by omega) (rz_Is_pi hB hx hy hb hL h i (by omega)) (np - 1 - i) (by omega)
/-- the class scans the pairs of one player -/
theorem rz_c_pj (hB : rz_base np nb nl nw len σ) (hx : rz_in x 0 40) (hy : rz_in y 0 40) (hab : a ≤ b) (hb : b < nb) {L : List Nat} (hL : rz_va np L) {m : Int} {i : Nat} (hi : i < np) {s : Int × Option (Nat × Nat)} (hI : rz_Is np m s) (o6 : Option Value) (v7 : Int32) (v8 : Int64) : ∀ d j, j + d = np - 1 - i → ∀ τ : ra_S, rz_SC np σ τ L ((rz_pj (rz_VL σ len np nw x y a b) L i s j).1, rz_bl L (rz_pj (rz_VL σ len np nw x y a b) L i s j).2) → ∃ υ : ra_S, ra_D (ra_lay, none, 99999, ra_m102) 55 [some (.ref 0), some (.int x), some (.int y), some (.int (nI a)), some (.int (nI b)), some (.int (nI np)), o6, some (.int v7), some (.long v8), none, some (.int (nI i)), some (.int (nI (i + 1 + j)))] [] τ = ra_D (ra_lay, none, 99999, ra_m102) 42 [some (.ref 0), some (.int x), some (.int y), some (.int (nI a)), some (.int (nI b)), some (.int (nI np)), o6, some (.int v7), some (.long v8), none, some (.int (nI (i + 1))), some (.int (nI np))] [] υ ∧ rz_SC np σ υ L ((rz_pj (rz_VL σ len np nw x y a b) L i s (np - 1 - i)).1, rz_bl L (rz_pj (rz_VL σ len np nw x y a b) L i s (np - 1 - i)).2) := by
  have c3 := hB.1.1.2.2
  have c6 := hB.1.2.1.2.2
  intro d
  induction d with
  | zero =>
    intro j hj τ hS
    have : j = np - 1 - i := by omega
    subst this
    rw [show i + 1 + (np - 1 - i) = np by omega, e_102_55, rz_inl (by omega) (by omega), nI_1]
    exact ⟨τ, rfl, hS⟩
  | succ d ih =>
    intro j hj τ hS
    obtain ⟨s1, s2, s3, s4, s5⟩ := id hS
    have Ij := rz_Is_pj hB hx hy (by omega) (a := a) (b := b) (nw := nw) hL hi hI j (by omega)
    have vsw := rz_va_sw hL hi (show i + 1 + j < np by omega)
    obtain ⟨υ1, e1, k1, k2, k3⟩ := rz_c_sw hL c3 s3 (i := i) (j := i + 1 + j) hi (by omega)
    obtain ⟨υ2, υ3, e2, e3, hS3⟩ := rz_c_try hB hx hy hab hb vsw (st := ((rz_pj (rz_VL σ len np nw x y a b) L i s j).1, rz_bl L (rz_pj (rz_VL σ len np nw x y a b) L i s j).2)) ⟨by have := Ij.1; dsimp only; omega, by have := Ij.2.1; dsimp only; omega⟩ (rz_ft.of s1 (fun c hc => k1 c (by omega))) (by rw [k1 82 (by decide)]; exact s2) k3 (Or.inr (fun q hq => by rw [k1 84 (by decide)]; exact s4 q hq)) (by rw [k2]; exact s5)
    obtain ⟨t1, t2, t3, t4, t5⟩ := hS3
    obtain ⟨υ4, e4, m1, m2, m3⟩ := rz_c_sw vsw c3 t3 (i := i) (j := i + 1 + j) hi (by omega)
    have st : rz_SC np σ υ4 L ((rz_pj (rz_VL σ len np nw x y a b) L i s (j + 1)).1, rz_bl L (rz_pj (rz_VL σ len np nw x y a b) L i s (j + 1)).2) := by
      refine ⟨rz_ft.of t1 (fun c hc => m1 c (by omega)), by rw [m1 82 (by decide)]; exact t2, fun q hq => by rw [m3 q hq, rz_sw22 (by rw [hL.1]; exact hi) (by rw [hL.1]; omega)], fun q hq => ?_, ?_⟩
      · rw [m1 84 (by decide), t4 q hq]
        unfold rz_up
        rw [rz_pj]
        unfold rz_stp
        by_cases z : rz_VL σ len np nw x y a b (rz_sw2 L i (i + 1 + j)) < (rz_pj (rz_VL σ len np nw x y a b) L i s j).1
        · rw [if_pos z, if_pos z]; rfl
        · rw [if_neg z, if_neg z]
      · rw [m2, t5]
        unfold rz_up
        rw [rz_pj]
        unfold rz_stp
        by_cases z : rz_VL σ len np nw x y a b (rz_sw2 L i (i + 1 + j)) < (rz_pj (rz_VL σ len np nw x y a b) L i s j).1
        · rw [if_pos z, if_pos z]
        · rw [if_neg z, if_neg z]
    rw [e_102_55, rz_il (by omega) (by omega), e1, ra_kV, e2, ra_kJ, e3, ra_kV, e4, ra_kV, nI_1]
    exact ih (j + 1) (by omega) υ4 st
theorem rz_c_pi (hB : rz_base np nb nl nw len σ) (hx : rz_in x 0 40) (hy : rz_in y 0 40) (hab : a ≤ b) (hb : b < nb) {L : List Nat} (hL : rz_va np L) {m : Int} {s : Int × Option (Nat × Nat)} (hI : rz_Is np m s) (o6 : Option Value) (v7 : Int32) (v8 : Int64) : ∀ d i, i + d = np → ∀ (τ : ra_S) (o11 : Option Value), rz_SC np σ τ L ((rz_pi (rz_VL σ len np nw x y a b) np L s i).1, rz_bl L (rz_pi (rz_VL σ len np nw x y a b) np L s i).2) → ∃ (υ : ra_S) (o11' : Option Value), ra_D (ra_lay, none, 99999, ra_m102) 42 [some (.ref 0), some (.int x), some (.int y), some (.int (nI a)), some (.int (nI b)), some (.int (nI np)), o6, some (.int v7), some (.long v8), none, some (.int (nI i)), o11] [] τ = ra_D (ra_lay, none, 99999, ra_m102) 42 [some (.ref 0), some (.int x), some (.int y), some (.int (nI a)), some (.int (nI b)), some (.int (nI np)), o6, some (.int v7), some (.long v8), none, some (.int (nI np)), o11'] [] υ ∧ rz_SC np σ υ L ((rz_pi (rz_VL σ len np nw x y a b) np L s np).1, rz_bl L (rz_pi (rz_VL σ len np nw x y a b) np L s np).2) := by
  have c3 := hB.1.1.2.2
  have c6 := hB.1.2.1.2.2
  intro d
  induction d with
  | zero => intro i hi τ o11 hS; have : i = np := by omega
            subst this; exact ⟨τ, o11, rfl, hS⟩
  | succ d ih =>
    intro i hi τ o11 hS
    have Ii := rz_Is_pi hB hx hy (by omega) (a := a) (b := b) (nw := nw) hL hI i (by omega)
    obtain ⟨υ, e, hS2⟩ := rz_c_pj hB hx hy hab hb hL (i := i) (by omega) Ii o6 v7 v8 (np - 1 - i) 0 (by omega) τ hS
    rw [e_102_42, rz_il (by omega) (by omega), nI_1]
    rw [Nat.add_zero] at e
    rw [e]
    exact ih (i + 1) (by omega) υ _ hS2
theorem rz_c_rd (hB : rz_base np nb nl nw len σ) (hx : rz_in x 0 40) (hy : rz_in y 0 40) (hab : a ≤ b) (hb : b < nb) : ∀ d k, k + d = 20 → ∀ (L : List Nat) (m : Int) (τ : ra_S) (o8 o9 o10 o11 : Option Value), rz_va np L → 0 ≤ m ∧ m ≤ 100000000000 → rz_SC np σ τ L (m, L) → ∃ (υ : ra_S) (L' : List Nat), ra_D (ra_lay, none, 99999, ra_m102) 18 [some (.ref 0), some (.int x), some (.int y), some (.int (nI a)), some (.int (nI b)), some (.int (nI np)), some (.int 1), some (.int (nI k)), o8, o9, o10, o11] [] τ = ra_V υ ∧ rz_SC np σ υ L' (rz_rd (rz_VL σ len np nw x y a b) np d L m) := by
  have c3 := hB.1.1.2.2
  have c6 := hB.1.2.1.2.2
  intro d
  induction d with
  | zero =>
    intro k hk L m τ o8 o9 o10 o11 hL hm hS
    have : k = 20 := by omega
    subst this
    rw [e_102_18, if_neg (by decide)]
    exact ⟨τ, L, rfl, hS⟩
  | succ d ih =>
    intro k hk L m τ o8 o9 o10 o11 hL hm hS
    have I0 : rz_Is np m (m, none) := ⟨hm.1, hm.2, rfl⟩
    have In := rz_Is_pi hB hx hy (by omega) (a := a) (b := b) (nw := nw) hL I0 np (Nat.le_refl _)
    obtain ⟨υ, q11, e, hS2⟩ := rz_c_pi hB hx hy hab hb hL I0 (some (.int 1)) (nI k) (rz_L m) np 0 (by omega) τ o11 hS
    obtain ⟨t1, t2, t3, t4, t5⟩ := id hS2
    have cmp : lg_cmp (rz_L (rz_pi (rz_VL σ len np nw x y a b) np L (m, none) np).1) (rz_L m) < 0 ↔ (rz_pi (rz_VL σ len np nw x y a b) np L (m, none) np).1 < m := by
      have := In.1
      have := In.2.1
      rw [rz_lcn, rz_L_lt (by omega) (by omega) (by omega) (by omega)]
    have go : ∀ (t : Int32) (o8 o9 o10 o11 : Option Value), ra_D (ra_lay, none, 99999, ra_m102) 130 [some (.ref 0), some (.int x), some (.int y), some (.int (nI a)), some (.int (nI b)), some (.int (nI np)), some (.int 1), some (.int (nI k)), o8, o9, o10, o11] [.int t] υ = ra_D (ra_lay, none, 99999, ra_m102) 18 [some (.ref 0), some (.int x), some (.int y), some (.int (nI a)), some (.int (nI b)), some (.int (nI np)), some (.int t), some (.int (nI (k + 1))), o8, o9, o10, o11] [] (ra_cp υ 84 83 8) := fun t o8 o9 o10 o11 => by rw [e_102_130, e_64, ra_kV, nI_1]
    have hS3 : rz_SC np σ (ra_cp υ 84 83 8) (rz_bl L (rz_pi (rz_VL σ len np nw x y a b) np L (m, none) np).2) ((rz_pi (rz_VL σ len np nw x y a b) np L (m, none) np).1, rz_bl L (rz_pi (rz_VL σ len np nw x y a b) np L (m, none) np).2) := by
      refine ⟨rz_ft.of t1 (fun c hc => ?_), t2, fun q hq => ?_, fun q hq => ?_, t5⟩
      · show (if c = 83 then _ else υ.1 c) = υ.1 c
        rw [if_neg (by omega)]
      · show va_cpy (υ.1 84) (υ.1 83) 0 0 8 q = _
        rw [pk_cpy_in (by omega) (by omega), show 0 + (q - 0) = q by omega]; exact t4 q hq
      · exact t4 q hq
    rw [e_102_18, show (20 : Int32) = nI 20 from rfl, rz_il (by omega) (by omega), if_neg (by decide), hS.2.2.2.2, show (0 : Int32) = nI 0 from rfl, e, e_102_42, rz_inl (by omega) (by omega), t5, go, go, rz_rd]
    cases q : (rz_pi (rz_VL σ len np nw x y a b) np L (m, none) np).2 with
    | none =>
      have em : (rz_pi (rz_VL σ len np nw x y a b) np L (m, none) np).1 = m := by
        have := In.2.2
        rw [q] at this
        exact this
      rw [if_neg (show ¬ lg_cmp (rz_L (rz_pi (rz_VL σ len np nw x y a b) np L (m, none) np).1) (rz_L m) < 0 from fun w => by have := cmp.mp w; omega), e_102_18]
      rw [q, em] at hS3
      by_cases z : nI (k + 1) < (20 : Int32)
      · rw [if_pos z, if_pos rfl]; exact ⟨_, _, rfl, hS3⟩
      · rw [if_neg z]; exact ⟨_, _, rfl, hS3⟩
    | some ij =>
      have em := In.2.2
      rw [q] at em
      rw [if_pos (show lg_cmp (rz_L (rz_pi (rz_VL σ len np nw x y a b) np L (m, none) np).1) (rz_L m) < 0 from cmp.mpr em.1)]
      rw [q] at hS3
      exact ih (k + 1) (by omega) (rz_sw2 L ij.1 ij.2) _ _ _ _ _ _ (rz_va_sw hL em.2.1 em.2.2) ⟨In.1, In.2.1⟩ hS3
/-- how the reference holds what it found -/
def rz_Sv (s : Option (Nat × Nat)) (v7 v9 v10 : Int32) : Prop := match s with
  | none => v7 = 0
  | some ij => v7 = 1 ∧ v9 = nI ij.1 ∧ v10 = nI ij.2
theorem rz_m_pj (hB : rz_base np nb nl nw len σ) (hx : rz_in x 0 40) (hy : rz_in y 0 40) (hab : a ≤ b) (hb : b < nb) {L : List Nat} (hL : rz_va np L) {m : Int} {i : Nat} (hi : i < np) {s : Int × Option (Nat × Nat)} (hI : rz_Is np m s) (v8 : Int32) : ∀ d j, j + d = np - 1 - i → ∀ (τ : ra_S) (v7 v9 v10 : Int32) (o13 o14 : Option Value), rz_fo np σ τ → (∀ q, q < np → τ.1 113 q = nI (L.getD q q)) → rz_Sv (rz_pj (rz_VL σ len np nw x y a b) L i s j).2 v7 v9 v10 → ∃ (υ : ra_S) (v7' v9' v10' : Int32) (o13' o14' : Option Value), ra_D (ra_lay, none, 99999, ra_m237) 56 [some (.ref 86), some (.int x), some (.int y), some (.int (nI a)), some (.int (nI b)), some (.long (rz_L (rz_pj (rz_VL σ len np nw x y a b) L i s j).1)), none, some (.int v7), some (.int v8), some (.int v9), some (.int v10), some (.int (nI i)), some (.int (nI (i + 1 + j))), o13, o14] [] τ = ra_D (ra_lay, none, 99999, ra_m237) 41 [some (.ref 86), some (.int x), some (.int y), some (.int (nI a)), some (.int (nI b)), some (.long (rz_L (rz_pj (rz_VL σ len np nw x y a b) L i s (np - 1 - i)).1)), none, some (.int v7'), some (.int v8), some (.int v9'), some (.int v10'), some (.int (nI (i + 1))), some (.int (nI np)), o13', o14'] [] υ ∧ rz_fo np σ υ ∧ (∀ q, q < np → υ.1 113 q = nI (L.getD q q)) ∧ rz_Sv (rz_pj (rz_VL σ len np nw x y a b) L i s (np - 1 - i)).2 v7' v9' v10' := by
  obtain ⟨-, c2, c3⟩ := hB.1.1
  have c6 := hB.1.2.1.2.2
  intro d
  induction d with
  | zero =>
    intro j hj τ v7 v9 v10 o13 o14 hf h113 hv
    have : j = np - 1 - i := by omega
    subst this
    rw [show i + 1 + (np - 1 - i) = np by omega, e_237_56, hf.2.1 14 (by decide), c2, rz_inl (by omega) (by omega), nI_1]
    exact ⟨τ, v7, v9, v10, o13, o14, rfl, hf, h113, hv⟩
  | succ d ih =>
    intro j hj τ v7 v9 v10 o13 o14 hf h113 hv
    have Ij := rz_Is_pj hB hx hy (by omega) (a := a) (b := b) (nw := nw) hL hi hI j (by omega)
    have vsw := rz_va_sw hL hi (show i + 1 + j < np by omega)
    have vi := rz_VL_in hB vsw hx hy (a := a) (b := b) (nw := nw) (by omega)
    obtain ⟨υ1, e1, k1, k2, k3⟩ := rz_m_sw hL c3 h113 (i := i) (j := i + 1 + j) hi (by omega)
    obtain ⟨υ2, e2, f2, g1, g2⟩ := rz_m_ts hB (rz_fo_of hf (fun c h1 _ => k1 c h1)) vsw k3 hx hy hab hb
    obtain ⟨υ3, e3, m1, m2, m3⟩ := rz_m_sw vsw c3 (τ := υ2) (fun q hq => by rw [g1]; exact k3 q hq) (i := i) (j := i + 1 + j) hi (by omega)
    have f3 : rz_fo np σ υ3 := rz_fo_of f2 (fun c h1 _ => m1 c h1)
    have u113 : ∀ q, q < np → υ3.1 113 q = nI (L.getD q q) := fun q hq => by rw [m3 q hq, rz_sw22 (by rw [hL.1]; exact hi) (by rw [hL.1]; omega)]
    have nx := ih (j + 1) (by omega) υ3
    rw [rz_pj, show i + 1 + (j + 1) = i + 1 + j + 1 by omega] at nx
    have i1 := Ij.1
    have i2 := Ij.2.1
    rw [e_237_56, hf.2.1 14 (by decide), c2, rz_il (by omega) (by omega), e1, ra_kV, e2, ra_kJ, e3, ra_kV, nI_1]
    by_cases z : rz_VL σ len np nw x y a b (rz_sw2 L i (i + 1 + j)) < (rz_pj (rz_VL σ len np nw x y a b) L i s j).1
    · have es : rz_stp (rz_VL σ len np nw x y a b) L (rz_pj (rz_VL σ len np nw x y a b) L i s j) i (i + 1 + j) = (rz_VL σ len np nw x y a b (rz_sw2 L i (i + 1 + j)), some (i, i + 1 + j)) := if_pos z
      rw [es] at nx
      rw [if_pos ((rz_lcn _ _).mpr ((rz_L_lt (by omega) (by omega) (by omega) (by omega)).mpr z))]
      exact nx _ _ _ _ _ f3 u113 ⟨rfl, rfl, rfl⟩
    · have es : rz_stp (rz_VL σ len np nw x y a b) L (rz_pj (rz_VL σ len np nw x y a b) L i s j) i (i + 1 + j) = rz_pj (rz_VL σ len np nw x y a b) L i s j := if_neg z
      rw [es] at nx
      rw [if_neg (fun w => z ((rz_L_lt (by omega) (by omega) (by omega) (by omega)).mp ((rz_lcn _ _).mp w)))]
      exact nx _ _ _ _ _ f3 u113 hv
theorem rz_m_pi (hB : rz_base np nb nl nw len σ) (hx : rz_in x 0 40) (hy : rz_in y 0 40) (hab : a ≤ b) (hb : b < nb) {L : List Nat} (hL : rz_va np L) {m : Int} {s : Int × Option (Nat × Nat)} (hI : rz_Is np m s) (v8 : Int32) : ∀ d i, i + d = np → ∀ (τ : ra_S) (v7 v9 v10 : Int32) (o12 o13 o14 : Option Value), rz_fo np σ τ → (∀ q, q < np → τ.1 113 q = nI (L.getD q q)) → rz_Sv (rz_pi (rz_VL σ len np nw x y a b) np L s i).2 v7 v9 v10 → ∃ (υ : ra_S) (v7' v9' v10' : Int32) (o12' o13' o14' : Option Value), ra_D (ra_lay, none, 99999, ra_m237) 41 [some (.ref 86), some (.int x), some (.int y), some (.int (nI a)), some (.int (nI b)), some (.long (rz_L (rz_pi (rz_VL σ len np nw x y a b) np L s i).1)), none, some (.int v7), some (.int v8), some (.int v9), some (.int v10), some (.int (nI i)), o12, o13, o14] [] τ = ra_D (ra_lay, none, 99999, ra_m237) 41 [some (.ref 86), some (.int x), some (.int y), some (.int (nI a)), some (.int (nI b)), some (.long (rz_L (rz_pi (rz_VL σ len np nw x y a b) np L s np).1)), none, some (.int v7'), some (.int v8), some (.int v9'), some (.int v10'), some (.int (nI np)), o12', o13', o14'] [] υ ∧ rz_fo np σ υ ∧ (∀ q, q < np → υ.1 113 q = nI (L.getD q q)) ∧ rz_Sv (rz_pi (rz_VL σ len np nw x y a b) np L s np).2 v7' v9' v10' := by
  obtain ⟨-, c2, c3⟩ := hB.1.1
  have c6 := hB.1.2.1.2.2
  intro d
  induction d with
  | zero => intro i hi τ v7 v9 v10 o12 o13 o14 hf h113 hv; have : i = np := by omega
            subst this; exact ⟨τ, v7, v9, v10, o12, o13, o14, rfl, hf, h113, hv⟩
  | succ d ih =>
    intro i hi τ v7 v9 v10 o12 o13 o14 hf h113 hv
    have Ii := rz_Is_pi hB hx hy (by omega) (a := a) (b := b) (nw := nw) hL hI i (by omega)
    obtain ⟨υ, w7, w9, w10, p13, p14, e, f1, u1, s1⟩ := rz_m_pj hB hx hy hab hb hL (i := i) (by omega) Ii v8 (np - 1 - i) 0 (by omega) τ v7 v9 v10 o13 o14 hf h113 hv
    rw [e_237_41, hf.2.1 14 (by decide), c2, rz_il (by omega) (by omega), nI_1]
    rw [Nat.add_zero] at e
    refine Exists.elim (ih (i + 1) (by omega) υ w7 w9 w10 (some (.int (nI np))) p13 p14 f1 u1 s1) (fun υ' h' => ⟨υ', ?_⟩)
    obtain ⟨a1, a2, a3, a4, a5, a6, a7, a8⟩ := h'
    exact ⟨a1, a2, a3, a4, a5, a6, Eq.trans e a7, a8⟩
theorem rz_m_cp (hB : rz_base np nb nl nw len σ) {L : List Nat} {τ : ra_S} (hf : rz_fo np σ τ) (h113 : ∀ q, q < np → τ.1 113 q = nI (L.getD q q)) (v5 : Int64) : ∀ d k, k + d = np → ∀ (υ : ra_S) (o1 o2 o3 o4 o7 o9 o10 o11 o12 o13 o14 : Option Value), (∀ c, c ≠ 114 → υ.1 c = τ.1 c) → (∀ q, q < k → υ.1 114 q = nI (L.getD q q)) → ∃ υ' : ra_S, ra_D (ra_lay, none, 99999, ra_m237) 152 [some (.ref 86), o1, o2, o3, o4, some (.long v5), none, o7, some (.int (nI k)), o9, o10, o11, o12, o13, o14] [] υ = ra_J v5 υ' ∧ rz_fo np σ υ' ∧ ∀ q, q < np → υ'.1 114 q = nI (L.getD q q) := by
  obtain ⟨-, c2, c3⟩ := hB.1.1
  intro d
  induction d with
  | zero =>
    intro k hk υ o1 o2 o3 o4 o7 o9 o10 o11 o12 o13 o14 g1 g2
    have : k = np := by omega
    subst this
    rw [e_237_152, g1 86 (by decide), hf.2.1 14 (by decide), c2, rz_inl (by omega) (by omega)]
    exact ⟨υ, rfl, rz_fo_of hf (fun c _ h2 => g1 c h2), g2⟩
  | succ d ih =>
    intro k hk υ o1 o2 o3 o4 o7 o9 o10 o11 o12 o13 o14 g1 g2
    rw [e_237_152, g1 86 (by decide), hf.2.1 14 (by decide), c2, rz_il (by omega) (by omega), rz_ig (by omega) (by omega), rz_ig (by omega) (by omega), nI_clamp (by omega), g1 113 (by decide), h113 k (by omega), nI_1]
    refine ih (k + 1) (by omega) (ra_ui υ 114 k (nI (L.getD k k))) _ _ _ _ _ _ _ _ _ _ _ (fun c hc => by rw [ra_ui_1 c hc]; exact g1 c hc) (fun q hq => ?_)
    rw [ra_ui_get]
    by_cases z : q = k
    · rw [if_pos ⟨rfl, z⟩, z]
    · rw [if_neg (fun w => z w.2)]; exact g2 q (by omega)
theorem rz_m_rd (hB : rz_base np nb nl nw len σ) (hx : rz_in x 0 40) (hy : rz_in y 0 40) (hab : a ≤ b) (hb : b < nb) : ∀ d k, k + d = 20 → ∀ (L : List Nat) (m : Int) (τ : ra_S) (o9 o10 o11 o12 o13 o14 : Option Value), rz_va np L → 0 ≤ m ∧ m ≤ 100000000000 → rz_fo np σ τ → (∀ q, q < np → τ.1 113 q = nI (L.getD q q)) → ∃ υ : ra_S, ra_D (ra_lay, none, 99999, ra_m237) 17 [some (.ref 86), some (.int x), some (.int y), some (.int (nI a)), some (.int (nI b)), some (.long (rz_L m)), none, some (.int 1), some (.int (nI k)), o9, o10, o11, o12, o13, o14] [] τ = ra_J (rz_L (rz_rd (rz_VL σ len np nw x y a b) np d L m).1) υ ∧ rz_fo np σ υ ∧ ∀ q, q < np → υ.1 114 q = nI ((rz_rd (rz_VL σ len np nw x y a b) np d L m).2.getD q q) := by
  obtain ⟨-, c2, c3⟩ := hB.1.1
  have c6 := hB.1.2.1.2.2
  intro d
  induction d with
  | zero =>
    intro k hk L m τ o9 o10 o11 o12 o13 o14 hL hm hf h113
    have : k = 20 := by omega
    subst this
    rw [e_237_17, if_neg (by decide)]
    exact rz_m_cp hB hf h113 (rz_L m) np 0 (by omega) τ _ _ _ _ _ _ _ _ _ _ _ (fun _ _ => rfl) (fun q hq => by omega)
  | succ d ih =>
    intro k hk L m τ o9 o10 o11 o12 o13 o14 hL hm hf h113
    have I0 : rz_Is np m (m, none) := ⟨hm.1, hm.2, rfl⟩
    have In := rz_Is_pi hB hx hy (by omega) (a := a) (b := b) (nw := nw) hL I0 np (Nat.le_refl _)
    obtain ⟨υ, w7, w9, w10, p12, p13, p14, e, f1, u1, s1⟩ := rz_m_pi hB hx hy hab hb hL I0 (nI k) np 0 (by omega) τ 0 0 0 o12 o13 o14 hf h113 rfl
    rw [e_237_17, show (20 : Int32) = nI 20 from rfl, rz_il (by omega) (by omega), if_neg (by decide)]
    rw [show rz_pi (rz_VL σ len np nw x y a b) np L (m, none) 0 = (m, none) from rfl] at e
    have key : ∃ υ' : ra_S, ra_D (ra_lay, none, 99999, ra_m237) 41 [some (.ref 86), some (.int x), some (.int y), some (.int (nI a)), some (.int (nI b)), some (.long (rz_L (rz_pi (rz_VL σ len np nw x y a b) np L (m, none) np).1)), none, some (.int w7), some (.int (nI k)), some (.int w9), some (.int w10), some (.int (nI np)), p12, p13, p14] [] υ = ra_J (rz_L (rz_rd (rz_VL σ len np nw x y a b) np (d + 1) L m).1) υ' ∧ rz_fo np σ υ' ∧ ∀ q, q < np → υ'.1 114 q = nI ((rz_rd (rz_VL σ len np nw x y a b) np (d + 1) L m).2.getD q q) := by
      rw [e_237_41, f1.2.1 14 (by decide), c2, rz_inl (by omega) (by omega), rz_rd, nI_1]
      cases q : (rz_pi (rz_VL σ len np nw x y a b) np L (m, none) np).2 with
      | none =>
        have em : (rz_pi (rz_VL σ len np nw x y a b) np L (m, none) np).1 = m := by
          have := In.2.2
          rw [q] at this
          exact this
        rw [q] at s1
        have s1' : w7 = 0 := s1
        subst s1'
        rw [if_pos rfl, em, e_237_17]
        by_cases z : nI (k + 1) < (20 : Int32)
        · rw [if_pos z, if_pos rfl]
          exact rz_m_cp hB f1 u1 (rz_L m) np 0 (by omega) υ _ _ _ _ _ _ _ _ _ _ _ (fun _ _ => rfl) (fun q hq => by omega)
        · rw [if_neg z]
          exact rz_m_cp hB f1 u1 (rz_L m) np 0 (by omega) υ _ _ _ _ _ _ _ _ _ _ _ (fun _ _ => rfl) (fun q hq => by omega)
      | some ij =>
        have em := In.2.2
        rw [q] at em s1
        obtain ⟨r7, r9, r10⟩ := s1
        subst r7 r9 r10
        obtain ⟨υ2, e2, k1, k2, k3⟩ := rz_m_sw hL c3 u1 (i := ij.1) (j := ij.2) em.2.1 em.2.2
        rw [if_neg (by decide), e2, ra_kV]
        exact ih (k + 1) (by omega) (rz_sw2 L ij.1 ij.2) _ υ2 _ _ _ _ _ _ (rz_va_sw hL em.2.1 em.2.2) ⟨In.1, In.2.1⟩ (rz_fo_of f1 (fun c h1 _ => k1 c h1)) k3
    obtain ⟨υ', a1, a2⟩ := key
    exact ⟨υ', Eq.trans e a1, a2⟩
end RZQ
