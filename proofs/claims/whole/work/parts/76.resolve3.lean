-- ===== text: both sides look up the same =====
section RZR3
variable {np : Nat} {fi : Int32 → Nat}
theorem rz_m_res {Lk : List rz_q4} {φ : ra_S} (hn : np ≤ 8) (h20 : φ.1 86 20 = nI np) (hr : ∀ p, p < np → ((rz_sub Lk p 0).length ≤ 4 ∧ φ.1 99 p = nI (rz_sub Lk p 0).length) ∧ ((rz_sub Lk p 1).length ≤ 4 ∧ φ.1 100 p = nI (rz_sub Lk p 1).length) ∧ ∀ kd, kd < 2 → ∀ i x, (rz_sub Lk p kd)[i]? = some x → φ.1 97 (8 * p + 4 * kd + i) = nI x.2.2.1 ∧ φ.1 98 (8 * p + 4 * kd + i) = nI x.2.2.2)
    (hb : ∀ x ∈ Lk, x.2.2.2 < 2147483648 ∧ x.1 < np ∧ x.2.1 < 2)
    (hf : ∀ ψ' : ra_S, ψ'.1 92 = φ.1 92 → ∀ x, ra_C 158 [.ref 92, .int 8, .int (nI np), .int x] ψ' = ra_I (if fi x < np then nI (fi x) else -1) ψ') :
    ∀ (d p : Nat) (ψ : ra_S) (v1 : Int32) (o3 o4 : Option Value), p + d = np → rz_Rv np fi Lk φ p ψ → rz_Bd np fi v1 (fun y => y ∈ Lk ∧ y.1 < p) →
      (∃ ψ' : ra_S, ra_D (ra_lay, none, 99999, ra_m169) 4 [some (.ref 86), some (.int v1), some (.int (nI p)), o3, o4] [] ψ = ra_I 1 ψ' ∧ rz_Rv np fi Lk φ np ψ' ∧ ∀ y ∈ Lk, rz_good np fi y) ∨
      (∃ (ψ' : ra_S) (x : rz_q4), ra_D (ra_lay, none, 99999, ra_m169) 4 [some (.ref 86), some (.int v1), some (.int (nI p)), o3, o4] [] ψ = ra_I 0 (ra_ui (ra_ui (ra_ui ψ' 86 10 (nI x.2.2.2)) 86 4 6) 86 5 (nI x.2.2.2)) ∧ rz_Rv np fi Lk φ np ψ' ∧ x ∈ Lk ∧ ¬ rz_good np fi x ∧ ∀ y ∈ Lk, ¬ rz_good np fi y → x.2.2.2 ≤ y.2.2.2) := by
  intro d
  induction d with
  | zero =>
    intro p ψ v1 o3 o4 hp hR hB
    have : p = np := by omega
    subst this
    have al : ∀ y, y ∈ Lk → y ∈ Lk ∧ y.1 < p := fun y hy => ⟨hy, (hb y hy).2.1⟩
    rw [e_169_4, hR.1 86 (by decide) (by decide), h20, rz_inl (by omega) (by omega)]
    rcases hB with ⟨rfl, h2⟩ | ⟨x, h1, h2, h3, rfl, h5⟩
    · rw [if_pos (by decide)]
      exact Or.inl ⟨ψ, rfl, hR, fun y hy => h2 y (al y hy)⟩
    · rw [if_neg (nI_pos h2), e_145, ra_kI, rz_b01, ra_ui_get, if_pos ⟨rfl, rfl⟩]
      exact Or.inr ⟨ψ, x, rfl, hR, h1.1, h3, fun y hy => h5 y (al y hy)⟩
  | succ d ih =>
    intro p ψ v1 o3 o4 hp hR hB
    obtain ⟨r0, r1, r2⟩ := hr p (by omega)
    have a8 : (8 : Int32) + nI p = nI (8 + p) := nI_add 8 p
    rw [e_169_4, hR.1 86 (by decide) (by decide), h20, rz_il (by omega) (by omega), a8, rz_ig (by omega) (by omega), rz_ig (by omega) (by omega), nI_clamp (by omega)]
    obtain ⟨ψ', v1', o4', e, R', B'⟩ := rz_m_lrow (fi := fi) hn h20 (show p < np by omega) r0 r1 r2 (fun x hx => (hb x hx).1) hf 8 0 (ra_ui (ra_ui ψ 94 (8 + p) 0) 95 (8 + p) 0) v1 o4 (by omega)
      ⟨fun c c1 c2 => ((ra_ui_1 c c2).trans (ra_ui_1 c c1)).trans (hR.1 c c1 c2), hR.2.1, fun j hj => ⟨by rw [ra_ui_1 94 (by decide), ra_ui_get, if_neg (fun q => by omega)]; exact (hR.2.2.1 j hj).1, by rw [ra_ui_get, if_neg (fun q => by omega), ra_ui_1 95 (by decide)]; exact (hR.2.2.1 j hj).2⟩, fun q hq => ⟨by rw [ra_ui_1 94 (by decide), ra_ui_get, if_neg (fun w => by omega)]; exact (hR.2.2.2 q hq).1, by rw [ra_ui_get, if_neg (fun w => by omega), ra_ui_1 95 (by decide)]; exact (hR.2.2.2 q hq).2⟩⟩
      (by rw [ra_ui_1 94 (by decide), ra_ui_get, if_pos ⟨rfl, rfl⟩]; rfl) (by rw [ra_ui_get, if_pos ⟨rfl, rfl⟩]; rfl)
      (hB.iff (fun y => by
        unfold rz_Vs
        constructor
        · intro q; exact Or.inl q
        · rintro (q | q | q)
          · exact q
          · cases q
          · cases q))
    have e' : ra_D (ra_lay, none, 99999, ra_m169) 34 [some (.ref 86), some (.int v1), some (.int (nI p)), some (.int 0), o4] [] (ra_ui (ra_ui ψ 94 (8 + p) 0) 95 (8 + p) 0) = ra_D (ra_lay, none, 99999, ra_m169) 4 [some (.ref 86), some (.int v1'), some (.int (nI (p + 1))), some (.int 8), o4'] [] ψ' := e
    rw [e']
    refine ih (p + 1) ψ' v1' _ o4' (by omega) R' (B'.iff (fun y => ?_))
    unfold rz_Vs
    rw [rz_take_all (show (rz_sub Lk p 0).length ≤ 8 by omega), rz_take_all (show (rz_sub Lk p 1).length ≤ 8 - 4 by omega), rz_sub_mem, rz_sub_mem]
    constructor
    · rintro (q | q | q)
      · exact ⟨q.1, by omega⟩
      · exact ⟨q.1, by omega⟩
      · exact ⟨q.1, by omega⟩
    · rintro ⟨q1, q2⟩
      have := hb y q1
      by_cases z : y.1 < p
      · exact Or.inl ⟨q1, z⟩
      · rcases (show y.2.1 = 0 ∨ y.2.1 = 1 by omega) with w | w
        · exact Or.inr (Or.inl ⟨q1, by omega, w⟩)
        · exact Or.inr (Or.inr ⟨q1, by omega, w⟩)
theorem rz_resolve {n nl : Nat} {υ φ : ra_S} (hn : n ≤ 100000) (hp : rz_Qp np nl (υ.1 35 0) (φ.1 86 20) (υ.1 36) (υ.1 37) (υ.1 38) (υ.1 39) (υ.1 40) (υ.1 41) (υ.1 42) (υ.1 43) (φ.1 92) (φ.1 93)) (hk : rz_Qk n np (υ.1 5 0) (υ.1 6) (υ.1 7) (υ.1 8) (υ.1 9) (φ.1 97) (φ.1 98) (φ.1 99) (φ.1 100)) :
    (∃ υ' φ' : ra_S, ra_C 41 [.ref 1, .ref 35] υ = ra_I 1 υ' ∧ ra_C 169 [.ref 86] φ = ra_I 1 φ' ∧ (∀ c, c ≠ 42 → c ≠ 43 → υ'.1 c = υ.1 c) ∧ υ'.2 = υ.2 ∧ (∀ c, c ≠ 94 → c ≠ 95 → φ'.1 c = φ.1 c) ∧ φ'.2 = φ.2 ∧ (∀ j, j < 8 → φ'.1 94 j = φ.1 94 j ∧ φ'.1 95 j = φ.1 95 j) ∧
      ∀ p, p < np → (∃ b, (b < 2 ^ np ∧ b.testBit p = false) ∧ υ'.1 42 p = nI b ∧ φ'.1 94 (8 + p) = nI b) ∧ (∃ b, (b < 2 ^ np ∧ b.testBit p = false) ∧ υ'.1 43 p = nI b ∧ φ'.1 95 (8 + p) = nI b)) ∨
    (∃ υ' φ' : ra_S, ra_C 41 [.ref 1, .ref 35] υ = ra_I 0 υ' ∧ ra_C 169 [.ref 86] φ = ra_I 0 φ' ∧ rz_Fl υ' φ' ∧ rz_gct υ υ' ∧ rz_gmt φ φ') := by
  obtain ⟨p1, p2, p3, p4⟩ := hp
  obtain ⟨Lk, k1, k2, k3, k4, k5⟩ := hk
  obtain ⟨fi, hfi⟩ := rz_fiP p3 (fun l hl => (p4 l hl).1)
  have mem : ∀ x ∈ Lk, x.1 < np ∧ x.2.1 < 2 ∧ x.2.2.2 < n := fun x hx => by
    obtain ⟨i, hi⟩ := List.mem_iff_getElem?.mp hx
    have := k3 i x hi
    exact ⟨this.2.2.2.2.1, this.2.2.2.2.2.1, this.2.2.2.2.2.2.2⟩
  have C := rz_c_res (fi := fi) (υ := υ) (Lk := Lk) p3 p1 k1 (by omega) (fun i x hx => by
    obtain ⟨a, b, c, d, e, f, -⟩ := k3 i x hx
    exact ⟨a, b, c, d, e, f⟩) (fun τ' h x => (hfi x τ' φ h rfl).1) Lk.length 0 υ none none (by omega) (fun _ _ _ => rfl) rfl (fun p hp => ⟨(p4 p hp).2.2.2.2.2.2.1, (p4 p hp).2.2.2.2.2.2.2⟩) (fun x hx => by cases hx)
  have M := rz_m_res (fi := fi) (φ := φ) (Lk := Lk) p3 p2 k5 (fun x hx => by
    have := mem x hx
    exact ⟨by omega, this.1, this.2.1⟩) (fun ψ' h x => (hfi x υ ψ' rfl h).2) np 0 φ (-1) none none (by omega) ⟨fun _ _ _ => rfl, rfl, fun _ _ => ⟨rfl, rfl⟩, fun q hq => absurd hq (Nat.not_lt_zero q)⟩ (Or.inl ⟨rfl, fun y hy => absurd hy.2 (Nat.not_lt_zero _)⟩)
  rw [e_41, e_169]
  rcases C with ⟨τ', c1, c2, c3, c4, c5⟩ | ⟨τ', x, j, c1, c2, c3, c4, c5, c6⟩
  · rcases M with ⟨ψ', m1, m2, m3⟩ | ⟨ψ', z, m1, m2, m3, m4, m5⟩
    · refine Or.inl ⟨τ', ψ', c1, m1, c2, c3, m2.1, m2.2.1, m2.2.2.1, fun p hp => ?_⟩
      exact ⟨⟨_, rz_orG_ok _ (fun x hx => (rz_sub_mem.mp hx).2.1), (c4 p hp).1, (m2.2.2.2 p hp).1⟩, ⟨_, rz_orG_ok _ (fun x hx => (rz_sub_mem.mp hx).2.1), (c4 p hp).2, (m2.2.2.2 p hp).2⟩⟩
    · exact absurd (c5 z m3) m4
  · have xm : x ∈ Lk := List.mem_of_getElem? c4
    rcases M with ⟨ψ', m1, m2, m3⟩ | ⟨ψ', z, m1, m2, m3, m4, m5⟩
    · exact absurd (m3 x xm) c5
    · have same : z.2.2.2 = x.2.2.2 := by
        refine Nat.le_antisymm (m5 x xm c5) ?_
        obtain ⟨i, hi⟩ := List.mem_iff_getElem?.mp m3
        have ij : ¬ i < j := fun q => m4 (c6 z (List.mem_iff_getElem?.mpr ⟨i, by rw [List.getElem?_take, if_pos q]; exact hi⟩))
        by_cases y : i = j
        · rw [y, c4] at hi
          cases hi
          exact Nat.le_refl _
        · have := List.pairwise_iff_getElem.mp k4
          obtain ⟨hj1, hj2⟩ := List.getElem?_eq_some_iff.mp c4
          obtain ⟨hi1, hi2⟩ := List.getElem?_eq_some_iff.mp hi
          have q := this j i hj1 hi1 (by omega)
          rw [hj2, hi2] at q
          exact Nat.le_of_lt q
      refine Or.inr ⟨_, _, c1, m1, ?_, ?_, ?_⟩
      · unfold rz_Fl
        simp only [ra_ui_get, Nat.reduceEqDiff, and_false, and_true, if_true, if_false, true_and]
        rw [same]
      · refine rz_gct.tr ?_ ((rz_fn_fail τ' _ _).gct)
        exact ⟨fun c hc => c2 c (by omega) (by omega), by rw [c2 1 (by decide) (by decide)], fun k _ => by rw [c2 2 (by decide) (by decide)], by rw [c2 44 (by decide) (by decide)], c3⟩
      · have g0 : rz_gmt φ ψ' := ⟨fun c hc => m2.1 c (by omega) (by omega), fun k _ => by rw [m2.1 86 (by decide) (by decide)], ⟨fun k _ => by rw [m2.1 89 (by decide) (by decide)], fun k _ => by rw [m2.1 90 (by decide) (by decide)], fun k _ => by rw [m2.1 91 (by decide) (by decide)], fun k _ => by rw [m2.1 92 (by decide) (by decide)], fun k _ => by rw [m2.1 93 (by decide) (by decide)], fun k hk => (m2.2.2.1 k hk).1, fun k hk => (m2.2.2.1 k hk).2, fun k _ => by rw [m2.1 96 (by decide) (by decide)]⟩, m2.2.1⟩
        have gu : ∀ (ψ : ra_S) (k : Nat) (x : Int32), k = 10 ∨ k = 4 ∨ k = 5 → rz_gmt ψ (ra_ui ψ 86 k x) := fun ψ k x hk => ⟨fun c hc => ra_ui_1 c (by omega), fun i hi => by rw [ra_ui_get, if_neg (fun q => by omega)], ⟨fun i _ => by rw [ra_ui_1 89 (by decide)], fun i _ => by rw [ra_ui_1 90 (by decide)], fun i _ => by rw [ra_ui_1 91 (by decide)], fun i _ => by rw [ra_ui_1 92 (by decide)], fun i _ => by rw [ra_ui_1 93 (by decide)], fun i _ => by rw [ra_ui_1 94 (by decide)], fun i _ => by rw [ra_ui_1 95 (by decide)], fun i _ => by rw [ra_ui_1 96 (by decide)]⟩, rfl⟩
        exact ((g0.tr (gu _ 10 _ (by omega))).tr (gu _ 4 _ (by omega))).tr (gu _ 5 _ (by omega))
end RZR3
