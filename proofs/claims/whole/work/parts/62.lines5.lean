-- ===== text: the line of a law =====
section RZL4
variable {t : Nat → Nat} {N n : Nat} {k : Nat × Nat} {τ ψ : ra_S}
/-- what the weights of the law nl may change -/
def rz_wc1 (nl : Nat) (τ υ : ra_S) : Prop := (∀ c, c ≠ 1 → c ≠ 2 → c ≠ 32 → υ.1 c = τ.1 c) ∧ (∀ j, j < 4 * nl → υ.1 32 j = τ.1 32 j) ∧ rz_gct τ υ
def rz_wm1 (nl : Nat) (ψ φ : ra_S) : Prop := (∀ c, c ≠ 86 → c ≠ 91 → φ.1 c = ψ.1 c) ∧ (∀ j, j < 36 + 6 * nl → φ.1 91 j = ψ.1 91 j) ∧ (∀ j, 12 ≤ j → φ.1 86 j = ψ.1 86 j) ∧ rz_gmt ψ φ
theorem rz_lawW {nl : Nat} (hn : nl < 6) : ∀ d i, i + d = 4 → ∀ (n : Nat) (k : Nat × Nat) (υ φ : ra_S), rz_J t N n k υ φ → rz_wc1 nl τ υ → rz_wm1 nl ψ φ → (∀ w, w < i → υ.1 32 (4 * nl + w) = φ.1 91 (36 + 6 * nl + w) ∧ rz_in (φ.1 91 (36 + 6 * nl + w)) 0 9) →
    (∃ (n' : Nat) (k' : Nat × Nat) (υ' φ' : ra_S), ra_D (ra_lay, none, 99999, ra_m29) 50 [some (.ref 1), some (.ref 30), some (.int (nI nl)), some (.int (nI i))] [] υ = ra_D (ra_lay, none, 99999, ra_m29) 50 [some (.ref 1), some (.ref 30), some (.int (nI nl)), some (.int (nI 4))] [] υ' ∧ ra_D (ra_lay, none, 99999, ra_m164) 51 [some (.ref 86), some (.int (nI (36 + 6 * nl))), some (.int (nI i))] [] φ = ra_D (ra_lay, none, 99999, ra_m164) 51 [some (.ref 86), some (.int (nI (36 + 6 * nl))), some (.int (nI 4))] [] φ' ∧ rz_J t N n' k' υ' φ' ∧ n ≤ n' ∧ rz_wc1 nl τ υ' ∧ rz_wm1 nl ψ φ' ∧ ∀ w, w < 4 → υ'.1 32 (4 * nl + w) = φ'.1 91 (36 + 6 * nl + w) ∧ rz_in (φ'.1 91 (36 + 6 * nl + w)) 0 9) ∨
    (∃ υ' φ' : ra_S, ra_D (ra_lay, none, 99999, ra_m29) 50 [some (.ref 1), some (.ref 30), some (.int (nI nl)), some (.int (nI i))] [] υ = ra_I 0 υ' ∧ ra_D (ra_lay, none, 99999, ra_m164) 51 [some (.ref 86), some (.int (nI (36 + 6 * nl))), some (.int (nI i))] [] φ = ra_I 0 φ' ∧ rz_Fl υ' φ' ∧ rz_gct τ υ' ∧ rz_gmt ψ φ') := by
  intro d
  induction d with
  | zero =>
    intro i hi n k υ φ J c m g
    have : i = 4 := by omega
    subst this
    exact Or.inl ⟨n, k, υ, φ, rfl, rfl, J, Nat.le_refl _, c, m, g⟩
  | succ d ih =>
    intro i hi n k υ φ J c m g
    have i4 : nI nl * (4 : Int32) + nI i = nI (4 * nl + i) := by rw [show nI nl * (4 : Int32) = nI (nl * 4) from pk_mul nl 4, nI_add, Nat.mul_comm]
    rw [e_29_50, if_pos (show nI i < (4 : Int32) from nI_lt (b := 4) (by omega) (by omega)), e_164_51, if_pos (show nI i < (4 : Int32) from nI_lt (b := 4) (by omega) (by omega)), i4, nI_add]
    rcases rz_num J (lo := 0) (hi := 9) (by omega) (by omega) with ⟨υ2, φ2, n2, k2, v, a1, a2, J2, aft2, f3, f4, l1, l2, w1, w2, -⟩ | no
    · have a1' : ra_C 37 [.ref 1, .int 0, .int 9] υ = ra_I 1 υ2 := a1
      have a2' : ra_C 153 [.ref 86, .int 0, .int 9] φ = ra_I 1 φ2 := a2
      rw [a1', ra_kI, rz_10, a2', ra_kI, rz_10, rz_ig (by omega) (by omega), rz_ig (by omega) (by omega), nI_clamp (by omega), nI_clamp (by omega), w1, w2, nI_1]
      have st := ih (i + 1) (by omega) n2 k2 (ra_ui υ2 32 (4 * nl + i) (nI v)) (ra_ui φ2 91 (36 + 6 * nl + i) (nI v)) (rz_J_m (rz_J_c J2 (fun c hc => ra_ui_1 c (by omega))) (fun j hj => by rw [ra_ui_1 86 (by decide)]) ⟨ra_ui_1 87 (by decide), ra_ui_1 88 (by decide)⟩)
        ⟨fun c' h1 h2 h3 => by rw [ra_ui_1 c' h3, f3.1 c' h1 h2]; exact c.1 c' h1 h2 h3, fun j hj => by rw [ra_ui_get, if_neg (fun q => by omega), f3.1 32 (by decide) (by decide)]; exact c.2.1 j hj, (c.2.2.tr f3.gct).tr (rz_gct_ui _ (by omega))⟩
        ⟨fun c' h1 h2 => by rw [ra_ui_1 c' h2, f4.1 c' h1]; exact m.1 c' h1 h2, fun j hj => by rw [ra_ui_get, if_neg (fun q => by omega), f4.1 91 (by decide)]; exact m.2.1 j hj, fun j hj => by rw [ra_ui_1 86 (by decide), f4.2.1 j (by omega)]; exact m.2.2.1 j hj, (m.2.2.2.tr f4.gmt).tr (rz_gmt_ui _ (by omega))⟩
        (fun w hw => by
          rw [ra_ui_get, ra_ui_get]
          by_cases y : w = i
          · rw [if_pos ⟨rfl, by omega⟩, if_pos ⟨rfl, by omega⟩]
            exact ⟨rfl, by unfold rz_in; rw [nI_toInt (by omega)]; omega⟩
          · rw [if_neg (fun q => by omega), if_neg (fun q => by omega), f3.1 32 (by decide) (by decide), f4.1 91 (by decide)]
            exact g w (by omega))
      rcases st with ⟨n', k', υ', φ', b1, b2, b3, b4, b5⟩ | st
      · exact Or.inl ⟨n', k', υ', φ', b1, b2, b3, Nat.le_trans aft2.1 b4, b5⟩
      · exact Or.inr st
    · obtain ⟨υ', φ', b1, b2, b3, b4, b5⟩ := no
      have b1' : ra_C 37 [.ref 1, .int 0, .int 9] υ = ra_I 0 υ' := b1
      have b2' : ra_C 153 [.ref 86, .int 0, .int 9] φ = ra_I 0 φ' := b2
      rw [b1', ra_kI, rz_00, b2', ra_kI, rz_00]
      exact Or.inr ⟨υ', φ', rfl, rfl, b5, c.2.2.tr b3.gct, m.2.2.2.tr b4.gmt⟩
theorem rz_lawL (h : rz_J t N n k τ ψ) (hQ : rz_Q n τ ψ) : rz_Ln t N n (ra_C 29 [.ref 1, .ref 30] τ) (ra_C 164 [.ref 86] ψ) τ ψ := by
  obtain ⟨nb, nl, np, nw, q1, q2, q3, q4, q5, q6⟩ := id hQ
  obtain ⟨d1, d2, d3, d4⟩ := q3
  rw [e_29, e_164, d1, d2]
  by_cases z : nl = 6
  · subst z
    rw [if_neg (show ¬ nI 6 < (6 : Int32) by decide), if_pos (show nI 6 = (6 : Int32) from rfl), rz_c_fail, ra_kI, rz_b01, e_145, ra_kI, rz_b01]
    exact rz_Ln_fail h _
  · rw [if_pos (show nI nl < (6 : Int32) from nI_lt (b := 6) (by omega) (by omega)), if_neg (show ¬ nI nl = (6 : Int32) from fun q => z (rz_nI_inj (b := 6) (by omega) (by omega) q))]
    obtain ⟨n1, k1, τ1, ψ1, e1, e2, J1, aft1, f1, f2⟩ := rz_stepJ h
    rw [e1, ra_kV, e2, ra_kV, f2.2.1 19 (by omega), d2]
    rcases rz_newL J1 (nl := nl) (by omega) (fun l hl => by rw [f1.1 31 (by decide), f2.1 90 (by decide)]; exact (d4 l hl).1) with ⟨τ2, ψ2, n2, k2, wd, a1, a2, J2, aft2, f3, f4, -⟩ | no
    · have u6 : τ2.1 1 6 = wd := by rw [f3.2.1 6 (by omega), ra_ui_get, if_pos ⟨rfl, rfl⟩]
      have i36 : (36 : Int32) + (6 : Int32) * nI nl = nI (36 + 6 * nl) := by rw [show (6 : Int32) * nI nl = nI (6 * nl) from pk_mul 6 nl]; exact nI_add 36 (6 * nl)
      have v19 : ψ2.1 86 19 = nI nl := by rw [f4.2.1 19 (by omega), ra_ui_1 86 (by decide), f2.2.1 19 (by omega)]; exact d2
      rw [a1, ra_kI, rz_10, a2, ra_kI, rz_10, rz_ig (by omega) (by omega), nI_clamp (by omega), u6, v19, i36]
      have gc3 : rz_gct τ (ra_ui τ2 31 nl wd) := ((f1.fn.gct.tr (rz_gct_ui _ (by omega))).tr f3.gct).tr (rz_gct_ui _ (by omega))
      have gm3 : rz_gmt ψ ψ2 := (f2.fp.gmt.tr (rz_gmt_ui _ (by omega))).tr f4.gmt
      have J3 : rz_J t N n2 k2 (ra_ui τ2 31 nl wd) ψ2 := rz_J_c J2 (fun c hc => ra_ui_1 c (by omega))
      have T3 : ∀ c, c ≠ 1 → c ≠ 2 → c ≠ 31 → (ra_ui τ2 31 nl wd).1 c = τ.1 c := fun c h1 h2 h3 => by rw [ra_ui_1 c h3, f3.1 c h1 h2, ra_ui_1 c h1, f1.1 c h2]
      have P3 : ∀ c, c ≠ 86 → c ≠ 90 → ψ2.1 c = ψ.1 c := fun c h1 h2 => by rw [f4.1 c h1, ra_ui_1 c h2, f2.1 c h1]
      have P86 : ∀ j, 12 ≤ j → ψ2.1 86 j = ψ.1 86 j := fun j hj => by rw [f4.2.1 j (by omega), ra_ui_1 86 (by decide), f2.2.1 j (by omega)]
      have T31 : ∀ l, (ra_ui τ2 31 nl wd).1 31 l = if l = nl then wd else τ.1 31 l := fun l => by
        rw [ra_ui_get]
        by_cases y : l = nl
        · rw [if_pos ⟨rfl, y⟩, if_pos y]
        · rw [if_neg (fun q => y q.2), if_neg y, f3.1 31 (by decide) (by decide), ra_ui_1 31 (by decide), f1.1 31 (by decide)]
      have P90 : ∀ l, ψ2.1 90 (6 + l) = if l = nl then wd else ψ.1 90 (6 + l) := fun l => by
        rw [f4.1 90 (by decide), ra_ui_get]
        by_cases y : l = nl
        · rw [if_pos ⟨rfl, by omega⟩, if_pos y]
        · rw [if_neg (fun q => by omega), if_neg y, f2.1 90 (by decide)]
      rcases rz_lawW (τ := ra_ui τ2 31 nl wd) (ψ := ψ2) (nl := nl) (by omega) 4 0 (by omega) n2 k2 _ _ J3 ⟨fun _ _ _ _ => rfl, fun _ _ => rfl, rz_gct.rf _⟩ ⟨fun _ _ _ => rfl, fun _ _ => rfl, fun _ _ => rfl, (⟨fun _ _ => rfl, fun _ _ => rfl, ⟨fun _ _ => rfl, fun _ _ => rfl, fun _ _ => rfl, fun _ _ => rfl, fun _ _ => rfl, fun _ _ => rfl, fun _ _ => rfl, fun _ _ => rfl⟩, rfl⟩ : rz_gmt ψ2 ψ2)⟩ (fun w hw => by omega) with ⟨n4, k4, τ4, ψ4, b1, b2, J4, nn4, c4, m4, g4⟩ | ⟨υ, φ, b1, b2, b5, b3, b4⟩
      · rw [show (0 : Int32) = nI 0 from rfl, b1, b2, e_29_50, if_neg (show ¬ nI 4 < (4 : Int32) by decide), e_164_51, if_neg (show ¬ nI 4 < (4 : Int32) by decide)]
        rcases rz_sgn J4 (lo := (-500 : Int32)) (hi := 500) (by omega) (by omega) (by decide) with ⟨τ6, ψ6, n6, k6, r1, r2, J6, aft6, f7, f8, w5, w6⟩ | no
        · have r1' : ra_C 37 [.ref 1, .int (-500), .int 500] τ4 = ra_I 1 τ6 := r1
          have r2' : ra_C 154 [.ref 86, .int 500] ψ4 = ra_I 1 ψ6 := r2
          have i4 : nI (36 + 6 * nl) + (4 : Int32) = nI (36 + 6 * nl + 4) := nI_add _ 4
          have i5 : nI (36 + 6 * nl) + (5 : Int32) = nI (36 + 6 * nl + 5) := nI_add _ 5
          generalize hx : ψ6.1 86 11 = x at *
          have J7 : rz_J t N n6 k6 (ra_ui τ6 33 nl x) (ra_ui ψ6 91 (36 + 6 * nl + 4) x) := rz_J_m (rz_J_c J6 (fun c hc => ra_ui_1 c (by omega))) (fun j hj => by rw [ra_ui_1 86 (by decide)]) ⟨ra_ui_1 87 (by decide), ra_ui_1 88 (by decide)⟩
          have ck := rz_c_key J6 (w := 7) (by omega)
          rw [r1', ra_kI, rz_10, r2', ra_kI, rz_10, rz_ig (by omega) (by omega), nI_clamp (by omega), w5, i4, rz_ig (by omega) (by omega), nI_clamp (by omega), hx, show (7 : Int32) = nI 7 from rfl, rz_m_key J7 (w := 7) (by omega), ra_kI, i5]
          -- the end: t0 is 1 with ahead
          have fin : ∀ (t0 : Int32) (n8 : Nat) (k8 : Nat × Nat) (υ8 φ8 : ra_S), (t0 = 0 ∨ t0 = 1) → rz_J t N n8 k8 υ8 φ8 → n6 ≤ n8 → rz_fn (ra_ui (ra_ui τ6 33 nl x) 34 nl t0) υ8 → rz_fp (ra_ui (ra_ui ψ6 91 (36 + 6 * nl + 4) x) 91 (36 + 6 * nl + 5) t0) φ8 → ∀ o0 o2 o3 o1 o2' : Option Value, rz_Ln t N n (ra_D (ra_lay, none, 99999, ra_m29) 151 [o0, some (.ref 30), o2, o3] [] υ8) (ra_D (ra_lay, none, 99999, ra_m164) 145 [some (.ref 86), o1, o2'] [] φ8) τ ψ := by
            intro t0 n8 k8 υ8 φ8 ht J8 nn8 f9 f10 o0 o2 o3 o1 o2'
            have c30 : υ8.1 30 0 = nI nl := by rw [f9.1 30 (by decide) (by decide), ra_ui_1 30 (by decide), ra_ui_1 30 (by decide), f7.1 30 (by decide) (by decide), c4.1 30 (by decide) (by decide) (by decide), T3 30 (by decide) (by decide) (by decide)]; exact d1
            have m19 : φ8.1 86 19 = nI nl := by rw [f10.2.1 19 (by omega), ra_ui_1 86 (by decide), ra_ui_1 86 (by decide), f8.2.1 19 (by omega), m4.2.2.1 19 (by omega)]; exact v19
            rw [e_29_151, e_164_145, c30, m19, nI_1]
            obtain ⟨υ, hυ⟩ : ∃ υ : ra_S, υ = ra_ui υ8 30 0 (nI (nl + 1)) := ⟨_, rfl⟩
            obtain ⟨φ, hφ⟩ : ∃ φ : ra_S, φ = ra_ui φ8 86 19 (nI (nl + 1)) := ⟨_, rfl⟩
            rw [← hυ, ← hφ]
            have nn : n ≤ n8 := Nat.le_trans aft1.1 (Nat.le_trans aft2.1 (Nat.le_trans nn4 (Nat.le_trans aft6.1 nn8)))
            have C0 : ∀ c, c ≠ 1 → c ≠ 2 → c ≠ 30 → c ≠ 33 → c ≠ 34 → υ.1 c = τ4.1 c := fun c h1 h2 h3 h4 h5 => by rw [hυ, ra_ui_1 c h3, f9.1 c h1 h2, ra_ui_1 c h5, ra_ui_1 c h4, f7.1 c h1 h2]
            have C : ∀ c, c ≠ 1 ∧ c ≠ 2 ∧ c ≠ 30 ∧ c ≠ 31 ∧ c ≠ 32 ∧ c ≠ 33 ∧ c ≠ 34 → υ.1 c = τ.1 c := fun c hc => by
              obtain ⟨h1, h2, h3, h4, h5, h6, h7⟩ := hc
              rw [C0 c h1 h2 h3 h6 h7, c4.1 c h1 h2 h5, T3 c h1 h2 h4]
            have M : ∀ c, c ≠ 86 ∧ c ≠ 90 ∧ c ≠ 91 → φ.1 c = ψ.1 c := fun c hc => by
              rw [hφ, ra_ui_1 c hc.1, f10.1 c hc.1, ra_ui_1 c hc.2.2, ra_ui_1 c hc.2.2, f8.1 c hc.1, m4.1 c hc.1 hc.2.2, P3 c hc.1 hc.2.1]
            have M86 : ∀ j, (18 ≤ j ∧ j ≤ 24) ∧ j ≠ 19 → φ.1 86 j = ψ.1 86 j := fun j hj => by
              rw [hφ, ra_ui_get, if_neg (fun q => hj.2 q.2), f10.2.1 j (by omega), ra_ui_1 86 (by decide), ra_ui_1 86 (by decide), f8.2.1 j (by omega), m4.2.2.1 j (by omega), P86 j (by omega)]
            have x31 : ∀ l, υ.1 31 l = if l = nl then wd else τ.1 31 l := fun l => by rw [C0 31 (by decide) (by decide) (by decide) (by decide) (by decide), c4.1 31 (by decide) (by decide) (by decide), T31]
            have x32 : υ.1 32 = τ4.1 32 := C0 32 (by decide) (by decide) (by decide) (by decide) (by decide)
            have x33 : ∀ l, υ.1 33 l = if l = nl then x else τ.1 33 l := fun l => by
              rw [hυ, ra_ui_1 33 (by decide), f9.1 33 (by decide) (by decide), ra_ui_1 33 (by decide), ra_ui_get]
              by_cases y : l = nl
              · rw [if_pos ⟨rfl, y⟩, if_pos y]
              · rw [if_neg (fun q => y q.2), if_neg y, f7.1 33 (by decide) (by decide), c4.1 33 (by decide) (by decide) (by decide), T3 33 (by decide) (by decide) (by decide)]
            have x34 : ∀ l, υ.1 34 l = if l = nl then t0 else τ.1 34 l := fun l => by
              rw [hυ, ra_ui_1 34 (by decide), f9.1 34 (by decide) (by decide), ra_ui_get]
              by_cases y : l = nl
              · rw [if_pos ⟨rfl, y⟩, if_pos y]
              · rw [if_neg (fun q => y q.2), if_neg y, ra_ui_1 34 (by decide), f7.1 34 (by decide) (by decide), c4.1 34 (by decide) (by decide) (by decide), T3 34 (by decide) (by decide) (by decide)]
            have y90 : ∀ l, φ.1 90 (6 + l) = if l = nl then wd else ψ.1 90 (6 + l) := fun l => by
              rw [hφ, ra_ui_1 90 (by decide), f10.1 90 (by decide), ra_ui_1 90 (by decide), ra_ui_1 90 (by decide), f8.1 90 (by decide), m4.1 90 (by decide) (by decide), P90]
            have y91 : ∀ j, j ≠ 36 + 6 * nl + 4 → j ≠ 36 + 6 * nl + 5 → φ.1 91 j = ψ4.1 91 j := fun j h1 h2 => by
              rw [hφ, ra_ui_1 91 (by decide), f10.1 91 (by decide), ra_ui_get, if_neg (fun q => h2 q.2), ra_ui_get, if_neg (fun q => h1 q.2), f8.1 91 (by decide)]
            have y914 : φ.1 91 (36 + 6 * nl + 4) = x := by rw [hφ, ra_ui_1 91 (by decide), f10.1 91 (by decide), ra_ui_get, if_neg (fun q => by omega), ra_ui_get, if_pos ⟨rfl, rfl⟩]
            have y915 : φ.1 91 (36 + 6 * nl + 5) = t0 := by rw [hφ, ra_ui_1 91 (by decide), f10.1 91 (by decide), ra_ui_get, if_pos ⟨rfl, rfl⟩]
            have gc : rz_gct τ υ := by
              rw [hυ]
              exact ((((((gc3.tr c4.2.2).tr f7.gct).tr (rz_gct_ui _ (by omega))).tr (rz_gct_ui _ (by omega))).tr f9.gct).tr (rz_gct_ui _ (by omega)))
            have gm : rz_gmt ψ φ := by
              rw [hφ]
              exact ((((((gm3.tr m4.2.2.2).tr f8.gmt).tr (rz_gmt_ui _ (by omega))).tr (rz_gmt_ui _ (by omega))).tr f10.gmt).tr (rz_gmt_ui _ (by omega)))
            have J9 : rz_J t N n8 k8 υ φ := by
              refine rz_J_m (rz_J_c J8 (fun c hc => ?_) (by rw [hυ]; exact ⟨rfl, rfl⟩)) (fun j hj => ?_) ⟨?_, ?_⟩ (by rw [hφ]; exact ⟨rfl, rfl⟩)
              · rw [hυ, ra_ui_1 c (by omega)]
              · rw [hφ, ra_ui_get, if_neg (fun q => by omega)]
              · rw [hφ, ra_ui_1 87 (by decide)]
              · rw [hφ, ra_ui_1 88 (by decide)]
            refine Or.inl ⟨υ, φ, n8, k8, rfl, rfl, J9, nn, ⟨nb, nl + 1, np, nw, ?_⟩, gc, gm⟩
            simp only [C 29 (by decide), C 35 (by decide), C 36 (by decide), C 37 (by decide), C 38 (by decide), C 39 (by decide), C 40 (by decide), C 41 (by decide), C 42 (by decide), C 43 (by decide), C 44 (by decide), C 45 (by decide), C 46 (by decide), C 47 (by decide), C 5 (by decide), C 6 (by decide), C 7 (by decide), C 8 (by decide), C 9 (by decide), M 89 (by decide), M 92 (by decide), M 93 (by decide), M 96 (by decide), M 97 (by decide), M 98 (by decide), M 99 (by decide), M 100 (by decide), M86 18 (by decide), M86 20 (by decide), M86 21 (by decide), M86 22 (by decide), M86 23 (by decide), M86 24 (by decide)]
            refine ⟨q1, rz_Qb_mono q2 nn, ⟨by rw [hυ, ra_ui_get, if_pos ⟨rfl, rfl⟩], by rw [hφ, ra_ui_get, if_pos ⟨rfl, rfl⟩], by omega, fun l hl => ?_⟩, ?_, q5, rz_Qk_mono q6 nn⟩
            · by_cases y : l = nl
              · subst y
                rw [x31, y90, if_pos rfl, if_pos rfl, x33, if_pos rfl, x34, if_pos rfl, y914, y915, x32]
                exact ⟨rfl, fun w hw => by rw [y91 _ (by omega) (by omega)]; exact g4 w hw, ⟨rfl, w6⟩, rfl, ht⟩
              · rw [x31, y90, if_neg y, if_neg y, x33, if_neg y, x34, if_neg y, x32, y91 _ (by omega) (by omega), y91 _ (by omega) (by omega), m4.2.1 _ (by omega), m4.2.1 _ (by omega), P3 91 (by decide) (by decide)]
                obtain ⟨s1, s2, s3, s4, s5⟩ := d4 l (by omega)
                refine ⟨s1, fun w hw => ?_, s3, s4, s5⟩
                rw [y91 _ (by omega) (by omega), m4.2.1 _ (by omega), P3 91 (by decide) (by decide), c4.2.1 _ (by omega), T3 32 (by decide) (by decide) (by decide)]
                exact s2 w hw
            · obtain ⟨s1, s2, s3, s4⟩ := q4
              refine ⟨s1, s2, s3, fun p hp => ?_⟩
              obtain ⟨u1, ⟨l, u2, u3⟩, u4⟩ := s4 p hp
              exact ⟨u1, ⟨l, by omega, u3⟩, u4⟩
          have mk : ∀ t0 : Int32, rz_J t N n6 k6 (ra_ui (ra_ui τ6 33 nl x) 34 nl t0) (ra_ui (ra_ui ψ6 91 (36 + 6 * nl + 4) x) 91 (36 + 6 * nl + 5) t0) := fun t0 => rz_J_m (rz_J_c J7 (fun c hc => ra_ui_1 c (by omega))) (fun j hj => by rw [ra_ui_1 86 (by decide)]) ⟨ra_ui_1 87 (by decide), ra_ui_1 88 (by decide)⟩
          by_cases y : k6 = (6, 7)
          · rw [if_pos (show τ6.1 2 5 = (11 : Int32) from ck.mpr y), rz_t y, e_29_134, rz_ig (by omega) (by omega), if_pos (Or.inr rfl), rz_ig (by omega) (by omega), nI_clamp (by omega), show (ra_ui (ra_ui τ6 33 nl x) 34 nl 1).1 34 nl = 1 by rw [ra_ui_get, if_pos ⟨rfl, rfl⟩], rz_10, e_164_131, rz_ig (by omega) (by omega), nI_clamp (by omega), show (7 : Int32) = nI 7 from rfl, rz_m_key (mk 1) (w := 7) (by omega), ra_kI, rz_t y]
            obtain ⟨n8, k8, τ8, ψ8, e3, e4, J8, aft8, f9, f10⟩ := rz_stepJ (mk 1)
            rw [e3, ra_kV, e4, ra_kV]
            exact fin 1 n8 k8 τ8 ψ8 (Or.inr rfl) J8 aft8.1 f9.fn f10.fp _ _ _ _ _
          · rw [if_neg (show ¬ τ6.1 2 5 = (11 : Int32) from fun q => y (ck.mp q)), rz_f y, e_29_134, rz_ig (by omega) (by omega), if_pos (Or.inl rfl), rz_ig (by omega) (by omega), nI_clamp (by omega), show (ra_ui (ra_ui τ6 33 nl x) 34 nl 0).1 34 nl = 0 by rw [ra_ui_get, if_pos ⟨rfl, rfl⟩], rz_00, e_164_131, rz_ig (by omega) (by omega), nI_clamp (by omega), show (7 : Int32) = nI 7 from rfl, rz_m_key (mk 0) (w := 7) (by omega), ra_kI, rz_f y]
            exact fin 0 n6 k6 _ _ (Or.inl rfl) (mk 0) (Nat.le_refl _) ⟨fun _ _ _ => rfl, fun _ _ => rfl, fun _ _ => rfl, rfl⟩ ⟨fun _ _ => rfl, fun _ _ => rfl, rfl⟩ _ _ _ _ _
        · obtain ⟨υ, φ, b1, b2, b3, b4, b5⟩ := no
          have b1' : ra_C 37 [.ref 1, .int (-500), .int 500] τ4 = ra_I 0 υ := b1
          have b2' : ra_C 154 [.ref 86, .int 500] ψ4 = ra_I 0 φ := b2
          rw [b1', ra_kI, rz_00, b2', ra_kI, rz_00]
          exact Or.inr ⟨υ, φ, rfl, rfl, b5, (gc3.tr c4.2.2).tr b3.gct, (gm3.tr m4.2.2.2).tr b4.gmt⟩
      · rw [show (0 : Int32) = nI 0 from rfl, b1, b2]
        exact Or.inr ⟨υ, φ, rfl, rfl, b5, gc3.tr b3, gm3.tr b4⟩
    · obtain ⟨υ, φ, b1, b2, b3, b4, b5⟩ := no
      rw [b1, ra_kI, rz_00, b2, ra_kI, rz_00]
      exact Or.inr ⟨υ, φ, rfl, rfl, b5, f1.fn.gct.tr b3.gct, f2.fp.gmt.tr b4.gmt⟩
end RZL4
