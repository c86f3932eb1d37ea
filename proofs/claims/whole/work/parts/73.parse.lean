-- ===== text: all lines =====
section RZPA
variable {t : Nat → Nat} {N : Nat}
/-- what reading all lines may change: lines too -/
def rz_gcp (τ υ : ra_S) : Prop := (∀ c, ¬ (c = 1 ∨ c = 2 ∨ (5 ≤ c ∧ c ≤ 9) ∨ (29 ≤ c ∧ c ≤ 47)) → υ.1 c = τ.1 c) ∧ (∀ k, k < 4 ∨ 8 ≤ k → υ.1 2 k = τ.1 2 k) ∧ υ.1 44 0 = τ.1 44 0 ∧ υ.2 = τ.2
theorem rz_gct.p {τ υ : ra_S} (h : rz_gct τ υ) : rz_gcp τ υ := ⟨h.1, h.2.2.1, h.2.2.2.1, h.2.2.2.2⟩
theorem rz_gcp.tr {τ υ ψ : ra_S} (h : rz_gcp τ υ) (g : rz_gcp υ ψ) : rz_gcp τ ψ := ⟨fun c hc => (g.1 c hc).trans (h.1 c hc), fun k hk => (g.2.1 k hk).trans (h.2.1 k hk), g.2.2.1.trans h.2.2.1, g.2.2.2.trans h.2.2.2⟩
theorem rz_gcp_l (τ : ra_S) (x : Int32) : rz_gcp τ (ra_ui τ 1 4 x) := ⟨fun c hc => ra_ui_1 c (by omega), fun k _ => by rw [ra_ui_1 2 (by decide)], by rw [ra_ui_1 44 (by decide)], rfl⟩
theorem rz_Q_u {n : Nat} {τ ψ : ra_S} {x : Int32} (h : rz_Q n τ ψ) : rz_Q n (ra_ui τ 1 4 x) ψ := by
  obtain ⟨nb, nl, np, nw, q⟩ := h
  refine ⟨nb, nl, np, nw, ?_⟩
  have C : ∀ c, c ≠ 1 → (ra_ui τ 1 4 x).1 c = τ.1 c := fun c hc => ra_ui_1 c hc
  simp only [C 29 (by decide), C 30 (by decide), C 31 (by decide), C 32 (by decide), C 33 (by decide), C 34 (by decide), C 35 (by decide), C 36 (by decide), C 37 (by decide), C 38 (by decide), C 39 (by decide), C 40 (by decide), C 41 (by decide), C 42 (by decide), C 43 (by decide), C 44 (by decide), C 45 (by decide), C 46 (by decide), C 47 (by decide), C 5 (by decide), C 6 (by decide), C 7 (by decide), C 8 (by decide), C 9 (by decide)]
  exact q
theorem rz_parse : ∀ (d n : Nat) (k : Nat × Nat) (τ ψ : ra_S) (i : Nat) (o1 o4 o1' : Option Value), N - n + rz_ms k ≤ d → rz_J t N n k τ ψ → rz_Q n τ ψ → i + rz_ms k ≤ n → τ.1 1 4 = nI i →
    (∃ (υ φ : ra_S) (n' m : Nat), ra_D (ra_lay, none, 99999, ra_m24) 8 [some (.ref 1), o1, some (.ref 29), some (.int (nI i)), o4] [] τ = (ra_C 41 [.ref 1, .ref 35] υ).bind (ra_ki fun x2 s1 => (if x2 = 0 ∨ x2 = 1 then some (.inl (some (.int x2)), s1) else none)) ∧ ra_D (ra_lay, none, 99999, ra_m170) 55 [some (.ref 86), o1', some (.int (nI i))] [] ψ = (ra_C 169 [.ref 86] φ).bind (ra_ki fun x2 s1 => (if x2 = (0 : Int32) then some (.inl (some (.int (-1))), s1) else (ra_C 157 [.ref 86] s1).bind (ra_kv fun s3 => some (.inl (some (.int (nI m))), s3)))) ∧ n' ≤ N ∧ rz_Q n' υ φ ∧ υ.1 1 4 = nI m ∧ rz_gcp τ υ ∧ rz_gmt ψ φ ∧ rz_Fl υ φ) ∨
    (∃ υ φ : ra_S, ra_D (ra_lay, none, 99999, ra_m24) 8 [some (.ref 1), o1, some (.ref 29), some (.int (nI i)), o4] [] τ = ra_I 0 υ ∧ ra_D (ra_lay, none, 99999, ra_m170) 55 [some (.ref 86), o1', some (.int (nI i))] [] ψ = ra_I (-1) φ ∧ rz_Fl υ φ ∧ rz_gcp τ υ ∧ rz_gmt ψ φ) := by
  intro d
  induction d with
  | zero =>
    intro n k τ ψ i o1 o4 o1' hd h hQ hi h4
    have k0 : k.1 = 0 := by
      unfold rz_ms at hd
      by_cases z : k.1 = 0
      · exact z
      · rw [if_neg z] at hd; omega
    obtain ⟨c1, c2, -⟩ := rz_Kc_kd h.2.2.1
    obtain ⟨m1, -⟩ := rz_Km_kd h.2.2.2.1
    have cc : τ.1 2 5 = (0 : Int32) := by rw [c2]; unfold rz_kc; rw [if_neg (by omega), k0]; rfl
    have mc : ψ.1 86 8 = (0 : Int32) := by rw [m1]; rcases rz_km_cases c1 with q | q | q | q | q | q | q <;> first | (rw [q.2]; rfl) | omega
    rw [e_24_8, cc, if_pos (show (0 : Int32) = 0 from rfl), ite_self, e_170_55, mc, if_pos rfl]
    exact Or.inl ⟨τ, ψ, n, i, rfl, rfl, h.1.2.2.2.1, hQ, h4, (rz_gct.rf τ).p, (⟨fun _ _ => rfl, fun _ _ => rfl, ⟨fun _ _ => rfl, fun _ _ => rfl, fun _ _ => rfl, fun _ _ => rfl, fun _ _ => rfl, fun _ _ => rfl, fun _ _ => rfl, fun _ _ => rfl⟩, rfl⟩ : rz_gmt ψ ψ), h.2.2.2.2.2⟩
  | succ d ih =>
    intro n k τ ψ i o1 o4 o1' hd h hQ hi h4
    by_cases k0 : k.1 = 0
    · obtain ⟨c1, c2, -⟩ := rz_Kc_kd h.2.2.1
      obtain ⟨m1, -⟩ := rz_Km_kd h.2.2.2.1
      have cc : τ.1 2 5 = (0 : Int32) := by rw [c2]; unfold rz_kc; rw [if_neg (by omega), k0]; rfl
      have mc : ψ.1 86 8 = (0 : Int32) := by rw [m1]; rcases rz_km_cases c1 with q | q | q | q | q | q | q <;> first | (rw [q.2]; rfl) | omega
      rw [e_24_8, cc, if_pos (show (0 : Int32) = 0 from rfl), ite_self, e_170_55, mc, if_pos rfl]
      exact Or.inl ⟨τ, ψ, n, i, rfl, rfl, h.1.2.2.2.1, hQ, h4, (rz_gct.rf τ).p, (⟨fun _ _ => rfl, fun _ _ => rfl, ⟨fun _ _ => rfl, fun _ _ => rfl, fun _ _ => rfl, fun _ _ => rfl, fun _ _ => rfl, fun _ _ => rfl, fun _ _ => rfl, fun _ _ => rfl⟩, rfl⟩ : rz_gmt ψ ψ), h.2.2.2.2.2⟩
    · have ms : rz_ms k = 1 := if_neg k0
      have hN := h.1.2.1
      have hnN := h.1.2.2.2.1
      obtain ⟨c1, c2, -⟩ := rz_Kc_kd h.2.2.1
      obtain ⟨m1, -⟩ := rz_Km_kd h.2.2.2.1
      have mc : ¬ ψ.1 86 8 = (0 : Int32) := fun q => by
        rw [m1] at q
        have l := rz_km_cases c1
        have e := rz_nI_inj (b := 0) (by rcases l with q | q | q | q | q | q | q <;> omega) (by omega) q
        omega
      rw [e_170_55, if_neg mc]
      rcases rz_line h hQ k0 (by omega) (i := i) (by omega) o1 o4 with ⟨υ, φ, n', k', o4', a1, a2, J, aft, Q, g1, g2⟩ | ⟨υ, φ, a1, a2, a3, a4, a5⟩
      · have l4 : υ.1 1 4 + 1 = nI (i + 1) := by rw [g1.2.1, h4, nI_1]
        have hn' := J.1.2.2.2.1
        have m2 : N - n' + rz_ms k' ≤ d ∧ i + 1 + rz_ms k' ≤ n' := by
          obtain ⟨b1, b2⟩ := aft
          unfold rz_ms at ms hd hi ⊢
          rw [if_neg k0] at hd hi
          by_cases z : k'.1 = 0
          · rw [if_pos z]; omega
          · have := b2 z
            rw [if_neg z]; omega
        rw [a1, a2, ra_kI, rz_10, l4, nI_1]
        have gl : rz_gcp τ (ra_ui υ 1 4 (nI (i + 1))) := g1.p.tr (rz_gcp_l υ _)
        rcases ih n' k' (ra_ui υ 1 4 (nI (i + 1))) φ (i + 1) o1 o4' o1' m2.1 (rz_J_c J (fun c hc => ra_ui_1 c (by omega))) (rz_Q_u Q) m2.2 (by rw [ra_ui_get, if_pos ⟨rfl, rfl⟩]) with ⟨υ2, φ2, n2, m, b1, b2, b3, b4, b5, b6, b7, b8⟩ | ⟨υ2, φ2, b1, b2, b3, b4, b5⟩
        · exact Or.inl ⟨υ2, φ2, n2, m, b1, b2, b3, b4, b5, gl.tr b6, g2.tr b7, b8⟩
        · exact Or.inr ⟨υ2, φ2, b1, b2, b3, gl.tr b4, g2.tr b5⟩
      · rw [a1, a2, ra_kI, rz_00]
        exact Or.inr ⟨υ, φ, rfl, rfl, a3, a4.p, a5⟩
end RZPA
