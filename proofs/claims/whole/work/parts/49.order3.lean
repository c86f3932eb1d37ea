-- ===== order: all ways, or change by change =====
def rz_up (V : List Nat → Int) (st : Int × List Nat) (L : List Nat) : Int × List Nat := if V L < st.1 then (V L, L) else st
def rz_ao (V : List Nat → Int) (np : Nat) : Nat → List Nat → Int × List Nat → Int × List Nat
  | 0, _, st => st
  | d + 1, L, st => match rz_nw np L with
    | none => st
    | some L' => rz_ao V np d L' (rz_up V st L')
def rz_en (np : Nat) : Nat → List Nat → Bool
  | 0, L => (rz_nw np L).isNone
  | d + 1, L => match rz_nw np L with
    | none => true
    | some L' => rz_en np d L'
theorem rz_en5 : ∀ n : Fin 5, rz_en (n.val + 1) 119 (List.range (n.val + 1)) = true := by decide +kernel
theorem rz_rg (np q : Nat) : (List.range np).getD q q = q := by
  rw [List.getD_eq_getElem?_getD]
  by_cases h : q < np
  · rw [List.getElem?_range h]; rfl
  · rw [List.getElem?_eq_none (by rw [List.length_range]; omega)]; rfl
theorem rz_va_rg (np : Nat) : rz_va np (List.range np) := ⟨List.length_range, fun x hx => List.mem_range.mp hx⟩
theorem rz_sw22 {L : List Nat} {i j : Nat} (hi : i < L.length) (hj : j < L.length) (q : Nat) : (rz_sw2 (rz_sw2 L i j) i j).getD q q = L.getD q q := by
  have l2 : (rz_sw2 L i j).length = L.length := by unfold rz_sw2; rw [List.length_set, List.length_set]
  rw [rz_sw2_get (by rw [l2]; exact hi) (by rw [l2]; exact hj), rz_sw2_get hi hj, rz_sw2_get hi hj, rz_sw2_get hi hj]
  by_cases y : q = j
  · rw [if_pos y, y]
    by_cases z : i = j
    · rw [if_pos z, z]
    · rw [if_neg z, if_pos rfl]
  · rw [if_neg y]
    by_cases z : q = i
    · rw [if_pos z, if_pos rfl, z]
    · rw [if_neg z, if_neg y, if_neg z]
def rz_stp (V : List Nat → Int) (L : List Nat) (s : Int × Option (Nat × Nat)) (i j : Nat) : Int × Option (Nat × Nat) := if V (rz_sw2 L i j) < s.1 then (V (rz_sw2 L i j), some (i, j)) else s
def rz_pj (V : List Nat → Int) (L : List Nat) (i : Nat) (s : Int × Option (Nat × Nat)) : Nat → Int × Option (Nat × Nat)
  | 0 => s
  | d + 1 => rz_stp V L (rz_pj V L i s d) i (i + 1 + d)
def rz_pi (V : List Nat → Int) (np : Nat) (L : List Nat) (s : Int × Option (Nat × Nat)) : Nat → Int × Option (Nat × Nat)
  | 0 => s
  | i + 1 => rz_pj V L i (rz_pi V np L s i) (np - 1 - i)
def rz_bl (L : List Nat) : Option (Nat × Nat) → List Nat
  | none => L
  | some ij => rz_sw2 L ij.1 ij.2
def rz_rd (V : List Nat → Int) (np : Nat) : Nat → List Nat → Int → Int × List Nat
  | 0, L, m => (m, L)
  | d + 1, L, m => match (rz_pi V np L (m, none) np).2 with
    | none => (m, L)
    | some ij => rz_rd V np d (rz_sw2 L ij.1 ij.2) (rz_pi V np L (m, none) np).1
/-- what holds along a scan -/
def rz_Is (np : Nat) (m : Int) (s : Int × Option (Nat × Nat)) : Prop := 0 ≤ s.1 ∧ s.1 ≤ 100000000000 ∧ match s.2 with
  | none => s.1 = m
  | some ij => s.1 < m ∧ ij.1 < np ∧ ij.2 < np
theorem rz_Is_stp {V : List Nat → Int} {np : Nat} {L : List Nat} {m : Int} {s : Int × Option (Nat × Nat)} (h : rz_Is np m s) {i j : Nat} (hi : i < np) (hj : j < np) (hV : 0 ≤ V (rz_sw2 L i j) ∧ V (rz_sw2 L i j) ≤ 100000000000) : rz_Is np m (rz_stp V L s i j) := by
  unfold rz_stp
  by_cases z : V (rz_sw2 L i j) < s.1
  · rw [if_pos z]
    refine ⟨hV.1, hV.2, ?_, hi, hj⟩
    obtain ⟨h1, h2, h3⟩ := h
    obtain ⟨s1, s2⟩ := s
    cases s2 with
    | none => dsimp only at h3 z ⊢; omega
    | some ij => dsimp only at h3 z ⊢; omega
  · rw [if_neg z]; exact h
section RZO
variable {np nb nl nw : Nat} {len : Nat → Nat} {σ : ra_S} {x y : Int32} {a b : Nat}
/-- the class's seating -/
def rz_SC (np : Nat) (σ τ : ra_S) (L : List Nat) (st : Int × List Nat) : Prop := rz_ft σ τ ∧ τ.1 82 0 = nI np ∧ (∀ q, q < 8 → τ.1 83 q = nI (L.getD q q)) ∧ (∀ q, q < 8 → τ.1 84 q = nI (st.2.getD q q)) ∧ τ.2 82 3 = rz_L st.1
theorem rz_c_try (hB : rz_base np nb nl nw len σ) (hx : rz_in x 0 40) (hy : rz_in y 0 40) (hab : a ≤ b) (hb : b < nb) {τ : ra_S} {L : List Nat} (hL : rz_va np L) {st : Int × List Nat} (hm : -1 ≤ st.1 ∧ st.1 ≤ 9223372036854775807) (h1 : rz_ft σ τ) (h2 : τ.1 82 0 = nI np) (h3 : ∀ q, q < 8 → τ.1 83 q = nI (L.getD q q)) (h4 : rz_VL σ len np nw x y a b L < st.1 ∨ ∀ q, q < 8 → τ.1 84 q = nI (st.2.getD q q)) (h5 : τ.2 82 3 = rz_L st.1) : ∃ υ1 υ2 : ra_S, ra_C 103 [.ref 0, .int x, .int y, .int (nI a), .int (nI b)] τ = ra_J (rz_L (rz_VL σ len np nw x y a b L)) υ1 ∧ ra_C 63 [.ref 82, .long (rz_L (rz_VL σ len np nw x y a b L))] υ1 = ra_V υ2 ∧ rz_SC np σ υ2 L (rz_up (rz_VL σ len np nw x y a b) st L) := by
  have c6 := hB.1.2.1.2.2
  obtain ⟨υ1, e1, f1, k1, k2⟩ := rz_c_ts hB h1 hL h3 hx hy hab hb
  have vi := rz_VL_in hB hL hx hy (a := a) (b := b) (nw := nw) (by omega)
  have u82 : υ1.1 82 0 = nI np := by rw [k1 82 (by omega)]; exact h2
  have u83 : υ1.1 83 = τ.1 83 := k1 83 (by omega)
  have u84 : υ1.1 84 = τ.1 84 := k1 84 (by omega)
  have u3 : υ1.2 82 3 = rz_L st.1 := by rw [k2 82 (by decide)]; exact h5
  have cmp : lg_cmp (rz_L (rz_VL σ len np nw x y a b L)) (rz_L st.1) < 0 ↔ rz_VL σ len np nw x y a b L < st.1 := by rw [rz_lcn, rz_L_lt (by omega) (by omega) (by omega) (by omega)]
  unfold rz_up
  by_cases z : rz_VL σ len np nw x y a b L < st.1
  · rw [if_pos z]
    refine ⟨υ1, ra_cp (ra_ul υ1 82 3 (rz_L (rz_VL σ len np nw x y a b L))) 83 84 8, e1, by rw [e_63, u3, if_pos (cmp.mpr z)], ?_, ?_, ?_, ?_, ?_⟩
    · refine rz_ft.of f1 (fun c hc => ?_)
      show (if c = 84 then _ else υ1.1 c) = υ1.1 c
      rw [if_neg (by omega)]
    · exact u82
    · intro q hq
      show υ1.1 83 q = _
      rw [u83]; exact h3 q hq
    · intro q hq
      show va_cpy (υ1.1 83) (υ1.1 84) 0 0 8 q = _
      rw [pk_cpy_in (by omega) (by omega), show 0 + (q - 0) = q by omega, u83]; exact h3 q hq
    · show (ra_ul υ1 82 3 (rz_L (rz_VL σ len np nw x y a b L))).2 82 3 = _
      rw [ra_ul_get, if_pos ⟨rfl, rfl⟩]
  · rw [if_neg z]
    refine ⟨υ1, υ1, e1, by rw [e_63, u3, if_neg (fun w => z (cmp.mp w))], f1, u82, fun q hq => by rw [u83]; exact h3 q hq, fun q hq => ?_, u3⟩
    rcases h4 with h4 | h4
    · exact absurd h4 z
    · rw [u84]; exact h4 q hq
theorem rz_up_in (hB : rz_base np nb nl nw len σ) (hx : rz_in x 0 40) (hy : rz_in y 0 40) (hb : b < 40) {L : List Nat} (hL : rz_va np L) {st : Int × List Nat} (h : 0 ≤ st.1 ∧ st.1 ≤ 9223372036854775807) : 0 ≤ (rz_up (rz_VL σ len np nw x y a b) st L).1 ∧ (rz_up (rz_VL σ len np nw x y a b) st L).1 ≤ 9223372036854775807 := by
  have vi := rz_VL_in hB hL hx hy (a := a) (b := b) (nw := nw) hb
  unfold rz_up
  split
  · exact ⟨vi.1, by omega⟩
  · exact h
theorem rz_c_all (hB : rz_base np nb nl nw len σ) (h0 : 0 < np) (hx : rz_in x 0 40) (hy : rz_in y 0 40) (hab : a ≤ b) (hb : b < nb) : ∀ d t, t + d = 120 → ∀ (L : List Nat) (st : Int × List Nat) (τ : ra_S), rz_va np L → 0 ≤ st.1 ∧ st.1 ≤ 9223372036854775807 → rz_SC np σ τ L st → ∃ (υ : ra_S) (L' : List Nat), ra_D (ra_lay, none, 99999, ra_m101) 3 [some (.ref 0), some (.int x), some (.int y), some (.int (nI a)), some (.int (nI b)), some (.int (nI t))] [] τ = ra_V υ ∧ rz_SC np σ υ L' (rz_ao (rz_VL σ len np nw x y a b) np d L st) := by
  have c3 := hB.1.1.2.2
  have c6 := hB.1.2.1.2.2
  intro d
  induction d with
  | zero =>
    intro t ht L st τ hL hm hS
    have : t = 120 := by omega
    subst this
    rw [e_101_3, if_neg (by decide)]
    exact ⟨τ, L, rfl, hS⟩
  | succ d ih =>
    intro t ht L st τ hL hm hS
    obtain ⟨s1, s2, s3, s4, s5⟩ := id hS
    rw [e_101_3, show (120 : Int32) = nI 120 from rfl, rz_il (by omega) (by omega), rz_ao]
    rcases rz_c_nw hL h0 c3 s2 s3 with ⟨q1, q2⟩ | ⟨L', υ, q1, q2, q3, q4, q5⟩
    · rw [q1, q2, ra_kI, if_pos rfl]
      exact ⟨τ, L, rfl, hS⟩
    · have vL' := rz_va_nw hL h0 q1
      obtain ⟨υ1, υ2, e1, e2, hS2⟩ := rz_c_try hB hx hy hab hb vL' (st := st) ⟨by omega, hm.2⟩ (rz_ft.of s1 (fun c hc => q3 c (by omega))) (by rw [q3 82 (by decide)]; exact s2) q5 (Or.inr (fun q hq => by rw [q3 84 (by decide)]; exact s4 q hq)) (by rw [q4]; exact s5)
      rw [q1, q2, ra_kI, if_neg (by decide), e1, ra_kJ, e2, ra_kV, nI_1]
      exact ih (t + 1) (by omega) L' _ υ2 vL' (rz_up_in hB hx hy (by omega) vL' hm) hS2
theorem rz_fo_of {τ1 τ2 : ra_S} (h : rz_fo np σ τ1) (g : ∀ c, c ≠ 113 → c ≠ 114 → τ2.1 c = τ1.1 c) : rz_fo np σ τ2 := ⟨fun c hc => by rw [g c (by omega) (by omega)]; exact h.1 c hc, fun k hk => by rw [g 86 (by decide) (by decide)]; exact h.2.1 k hk, fun i hi => by rw [g 93 (by decide) (by decide)]; exact h.2.2.1 i hi, fun q hq => by rw [g 111 (by decide) (by decide), g 112 (by decide) (by decide)]; exact h.2.2.2 q hq⟩
theorem rz_m_ev (hB : rz_base np nb nl nw len σ) (hx : rz_in x 0 40) (hy : rz_in y 0 40) (hab : a ≤ b) (hb : b < nb) {L : List Nat} {st : Int × List Nat} {τ : ra_S} {v5 : Int64} (o8 o9 o10 : Option Value) (hL : rz_va np L) (hm : 0 ≤ st.1 ∧ st.1 ≤ 9223372036854775807) (hf : rz_fo np σ τ) (h113 : ∀ q, q < np → τ.1 113 q = nI (L.getD q q)) (hv : (v5 = -1 ∧ rz_VL σ len np nw x y a b L < st.1) ∨ (v5 = rz_L st.1 ∧ ∀ q, q < np → τ.1 114 q = nI (st.2.getD q q))) {R : Int × List Nat}
    (K : ∀ (υ : ra_S) (o8 o9 o10 : Option Value), rz_fo np σ υ → (∀ q, q < np → υ.1 113 q = nI (L.getD q q)) → (∀ q, q < np → υ.1 114 q = nI ((rz_up (rz_VL σ len np nw x y a b) st L).2.getD q q)) → ∃ υ' : ra_S, (ra_C 234 [.ref 86] υ).bind (ra_ki fun x4 s3 => ra_D (ra_lay, none, 99999, ra_m236) 8 [some (.ref 86), some (.int x), some (.int y), some (.int (nI a)), some (.int (nI b)), some (.long (rz_L (rz_up (rz_VL σ len np nw x y a b) st L).1)), none, some (.int x4), o8, o9, o10] [] s3) = ra_J (rz_L R.1) υ' ∧ rz_fo np σ υ' ∧ ∀ q, q < np → υ'.1 114 q = nI (R.2.getD q q)) :
    ∃ υ' : ra_S, ra_D (ra_lay, none, 99999, ra_m236) 8 [some (.ref 86), some (.int x), some (.int y), some (.int (nI a)), some (.int (nI b)), some (.long v5), none, some (.int 1), o8, o9, o10] [] τ = ra_J (rz_L R.1) υ' ∧ rz_fo np σ υ' ∧ ∀ q, q < np → υ'.1 114 q = nI (R.2.getD q q) := by
  obtain ⟨-, c2, c3⟩ := hB.1.1
  have c6 := hB.1.2.1.2.2
  have vi := rz_VL_in hB hL hx hy (a := a) (b := b) (nw := nw) (by omega)
  obtain ⟨υ, e1, f1, k1, k2⟩ := rz_m_ts hB hf hL h113 hx hy hab hb
  have u113 : ∀ q, q < np → υ.1 113 q = nI (L.getD q q) := fun q hq => by rw [k1]; exact h113 q hq
  have less : rz_VL σ len np nw x y a b L < st.1 → ∃ υ' : ra_S, ra_D (ra_lay, none, 99999, ra_m236) 46 [some (.ref 86), some (.int x), some (.int y), some (.int (nI a)), some (.int (nI b)), some (.long (rz_L (rz_VL σ len np nw x y a b L))), none, some (.int 1), some (.long (rz_L (rz_VL σ len np nw x y a b L))), none, some (.int 0)] [] υ = ra_J (rz_L R.1) υ' ∧ rz_fo np σ υ' ∧ ∀ q, q < np → υ'.1 114 q = nI (R.2.getD q q) := by
    intro lt
    have eu : rz_up (rz_VL σ len np nw x y a b) st L = (rz_VL σ len np nw x y a b L, L) := if_pos lt
    rw [eu] at K
    have copy : ∀ d k, k + d = np → ∀ (υ1 : ra_S) (o7 o8 o9 : Option Value), (∀ c, c ≠ 114 → υ1.1 c = υ.1 c) → (∀ q, q < k → υ1.1 114 q = nI (L.getD q q)) → ∃ υ' : ra_S, ra_D (ra_lay, none, 99999, ra_m236) 46 [some (.ref 86), some (.int x), some (.int y), some (.int (nI a)), some (.int (nI b)), some (.long (rz_L (rz_VL σ len np nw x y a b L))), none, o7, o8, o9, some (.int (nI k))] [] υ1 = ra_J (rz_L R.1) υ' ∧ rz_fo np σ υ' ∧ ∀ q, q < np → υ'.1 114 q = nI (R.2.getD q q) := by
      intro d
      induction d with
      | zero =>
        intro k hk υ1 o7 o8 o9 g1 g2
        have : k = np := by omega
        subst this
        rw [e_236_46, g1 86 (by decide), f1.2.1 14 (by decide), c2, rz_inl (by omega) (by omega)]
        exact K υ1 _ _ _ (rz_fo_of f1 (fun c _ h2 => g1 c h2)) (fun q hq => by rw [g1 113 (by decide)]; exact u113 q hq) g2
      | succ d ih =>
        intro k hk υ1 o7 o8 o9 g1 g2
        rw [e_236_46, g1 86 (by decide), f1.2.1 14 (by decide), c2, rz_il (by omega) (by omega), rz_ig (by omega) (by omega), rz_ig (by omega) (by omega), nI_clamp (by omega), g1 113 (by decide), u113 k (by omega), nI_1]
        refine ih (k + 1) (by omega) (ra_ui υ1 114 k (nI (L.getD k k))) _ _ _ (fun c hc => by rw [ra_ui_1 c hc]; exact g1 c hc) (fun q hq => ?_)
        rw [ra_ui_get]
        by_cases z : q = k
        · rw [if_pos ⟨rfl, z⟩, z]
        · rw [if_neg (fun w => z w.2)]; exact g2 q (by omega)
    exact copy np 0 (by omega) υ _ _ _ (fun _ _ => rfl) (fun q hq => by omega)
  rw [e_236_8, if_neg (by decide), e1, ra_kJ]
  rcases hv with ⟨rfl, lt⟩ | ⟨rfl, h114⟩
  · rw [if_pos (by decide)]
    exact less lt
  · rw [if_neg (fun w => by have := (rz_L0 (a := st.1) (by omega) (by omega)).mp ((rz_lcn _ _).mp w); omega)]
    by_cases z : rz_VL σ len np nw x y a b L < st.1
    · rw [if_pos ((rz_lcn _ _).mpr ((rz_L_lt (by omega) (by omega) (by omega) (by omega)).mpr z))]
      exact less z
    · have eu : rz_up (rz_VL σ len np nw x y a b) st L = st := if_neg z
      rw [eu] at K
      rw [if_neg (fun w => z ((rz_L_lt (by omega) (by omega) (by omega) (by omega)).mp ((rz_lcn _ _).mp w)))]
      exact K υ _ _ _ f1 u113 (fun q hq => by rw [k2]; exact h114 q hq)
theorem rz_m_all (hB : rz_base np nb nl nw len σ) (h0 : 0 < np) (hx : rz_in x 0 40) (hy : rz_in y 0 40) (hab : a ≤ b) (hb : b < nb) : ∀ d (L : List Nat) (st : Int × List Nat) (τ : ra_S) (v5 : Int64) (o8 o9 o10 : Option Value), rz_en np d L = true → rz_va np L → 0 ≤ st.1 ∧ st.1 ≤ 9223372036854775807 → rz_fo np σ τ → (∀ q, q < np → τ.1 113 q = nI (L.getD q q)) → ((v5 = -1 ∧ rz_VL σ len np nw x y a b L < st.1) ∨ (v5 = rz_L st.1 ∧ ∀ q, q < np → τ.1 114 q = nI (st.2.getD q q))) → ∃ υ : ra_S, ra_D (ra_lay, none, 99999, ra_m236) 8 [some (.ref 86), some (.int x), some (.int y), some (.int (nI a)), some (.int (nI b)), some (.long v5), none, some (.int 1), o8, o9, o10] [] τ = ra_J (rz_L (rz_ao (rz_VL σ len np nw x y a b) np d L (rz_up (rz_VL σ len np nw x y a b) st L)).1) υ ∧ rz_fo np σ υ ∧ ∀ q, q < np → υ.1 114 q = nI ((rz_ao (rz_VL σ len np nw x y a b) np d L (rz_up (rz_VL σ len np nw x y a b) st L)).2.getD q q) := by
  obtain ⟨-, c2, c3⟩ := hB.1.1
  have c6 := hB.1.2.1.2.2
  intro d
  induction d with
  | zero =>
    intro L st τ v5 o8 o9 o10 hen hL hm hf h113 hv
    refine rz_m_ev hB hx hy hab hb o8 o9 o10 hL hm hf h113 hv (fun υ o8 o9 o10 g1 g2 g3 => ?_)
    have nn : rz_nw np L = none := Option.isNone_iff_eq_none.mp hen
    rcases rz_m_nw hL h0 c3 (by rw [g1.2.1 14 (by decide)]; exact c2) g2 with ⟨-, q2⟩ | ⟨L', υ', q1, -⟩
    · rw [q2, ra_kI, e_236_8, if_pos rfl]
      exact ⟨υ, rfl, g1, g3⟩
    · rw [nn] at q1; cases q1
  | succ d ih =>
    intro L st τ v5 o8 o9 o10 hen hL hm hf h113 hv
    refine rz_m_ev hB hx hy hab hb o8 o9 o10 hL hm hf h113 hv (fun υ o8 o9 o10 g1 g2 g3 => ?_)
    rw [rz_ao]
    rw [rz_en] at hen
    rcases rz_m_nw hL h0 c3 (by rw [g1.2.1 14 (by decide)]; exact c2) g2 with ⟨q1, q2⟩ | ⟨L', υ', q1, q2, q3, q4, q5⟩
    · rw [q1, q2, ra_kI, e_236_8, if_pos rfl]
      exact ⟨υ, rfl, g1, g3⟩
    · rw [q1] at hen ⊢
      rw [q2, ra_kI]
      exact ih L' (rz_up (rz_VL σ len np nw x y a b) st L) υ' _ o8 o9 o10 hen (rz_va_nw hL h0 q1) (rz_up_in hB hx hy (by omega) hL hm) (rz_fo_of g1 (fun c h1 _ => q3 c h1)) q5 (Or.inr ⟨rfl, fun q hq => by rw [q3 114 (by decide)]; exact g3 q hq⟩)
end RZO
