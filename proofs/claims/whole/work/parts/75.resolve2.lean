-- ===== text: the reference looks up who sees and hears whom =====
section RZR2
variable {np : Nat} {fi : Int32 → Nat}
theorem rz_m_73 {p k : Nat} {ψ : ra_S} {v1 : Int32} (hn : np ≤ 8) (hp : p < np) (hk : k < 8) {x : rz_q4} (h20 : ψ.1 86 20 = nI np) (hw : ψ.1 97 (8 * p + k) = nI x.2.2.1) (hpl : ψ.1 98 (8 * p + k) = nI x.2.2.2) (x1 : x.1 = p)
    (hf : ra_C 158 [.ref 92, .int 8, .int (nI np), .int (nI x.2.2.1)] ψ = ra_I (if fi (nI x.2.2.1) < np then nI (fi (nI x.2.2.1)) else -1) ψ) (o4 : Option Value) :
    ∃ o4' : Option Value, ra_D (ra_lay, none, 99999, ra_m169) 73 [some (.ref 86), some (.int v1), some (.int (nI p)), some (.int (nI k)), o4] [] ψ =
      if rz_good np fi x then ra_D (ra_lay, none, 99999, ra_m169) 34 [some (.ref 86), some (.int v1), some (.int (nI p)), some (.int (nI (k + 1))), o4'] [] (if k < 4 then ra_ui ψ 94 (8 + p) (ψ.1 94 (8 + p) ||| nI (2 ^ fi (nI x.2.2.1))) else ra_ui ψ 95 (8 + p) (ψ.1 95 (8 + p) ||| nI (2 ^ fi (nI x.2.2.1))))
      else ra_D (ra_lay, none, 99999, ra_m169) 34 [some (.ref 86), some (.int (if v1 < 0 then nI x.2.2.2 else if nI x.2.2.2 < v1 then nI x.2.2.2 else v1)), some (.int (nI p)), some (.int (nI (k + 1))), o4'] [] ψ := by
  have m8 : (8 : Int32) * nI p + nI k = nI (8 * p + k) := by rw [show (8 : Int32) * nI p = nI (8 * p) from pk_mul 8 p, nI_add]
  have a8 : (8 : Int32) + nI p = nI (8 + p) := nI_add 8 p
  have bad : ∀ o4 : Option Value, ra_D (ra_lay, none, 99999, ra_m169) 110 [some (.ref 86), some (.int v1), some (.int (nI p)), some (.int (nI k)), o4] [] ψ = ra_D (ra_lay, none, 99999, ra_m169) 34 [some (.ref 86), some (.int (if v1 < 0 then nI x.2.2.2 else if nI x.2.2.2 < v1 then nI x.2.2.2 else v1)), some (.int (nI p)), some (.int (nI (k + 1))), o4] [] ψ := by
    intro o4
    rw [e_169_110, m8, rz_ig (by omega) (by omega), nI_clamp (by omega), hpl, e_169_129, m8, rz_ig (by omega) (by omega), nI_clamp (by omega), hpl, nI_1]
    by_cases z : v1 < 0
    · rw [if_pos z, if_pos z]
    · rw [if_neg z, if_neg z]
      by_cases y : nI x.2.2.2 < v1
      · rw [if_pos y, if_pos y]
      · rw [if_neg y, if_neg y]
  rw [e_169_73, m8, rz_ig (by omega) (by omega), nI_clamp (by omega), h20, hw, hf, ra_kI]
  by_cases g : rz_good np fi x
  · obtain ⟨g1, g2⟩ := g
    have q8 : fi (nI x.2.2.1) < 8 := by omega
    have sh : ((1 : Int32) <<< (nI (fi (nI x.2.2.1)) &&& 31)) = nI (2 ^ fi (nI x.2.2.1)) := rz_shN ⟨_, q8⟩
    refine ⟨some (.int (nI (fi (nI x.2.2.1)))), ?_⟩
    rw [if_pos (show rz_good np fi x from ⟨g1, g2⟩), if_pos g1, if_neg (nI_pos (by omega)), rz_lit (by omega) (by omega), if_neg (fun q => g2 (q.trans x1.symm)), a8, rz_ig (by omega) (by omega), rz_ig (by omega) (by omega), rz_ig (by omega) (by omega), rz_ig (by omega) (by omega), nI_clamp (by omega), sh, nI_1, show (4 : Int32) = nI 4 from rfl, rz_ltt (by omega) (by omega)]
    by_cases y : k < 4
    · rw [if_pos y, if_pos y]
    · rw [if_neg y, if_neg y]
  · by_cases g1 : fi (nI x.2.2.1) < np
    · have g2 : fi (nI x.2.2.1) = x.1 := Classical.byContradiction (fun q => g ⟨g1, q⟩)
      refine ⟨some (.int (nI (fi (nI x.2.2.1)))), ?_⟩
      rw [if_neg g, if_pos g1, if_neg (nI_pos (by omega)), if_pos (by rw [g2, x1]), bad]
    · refine ⟨some (.int (-1)), ?_⟩
      rw [if_neg g, if_neg g1, if_pos (by decide), bad]
/-- those that the reference has looked up: all of players before p, of p those of its places before k -/
def rz_Vs (Lk : List rz_q4) (p k : Nat) (y : rz_q4) : Prop := (y ∈ Lk ∧ y.1 < p) ∨ y ∈ (rz_sub Lk p 0).take k ∨ y ∈ (rz_sub Lk p 1).take (k - 4)
/-- what the reference has done by then -/
def rz_Rv (np : Nat) (fi : Int32 → Nat) (Lk : List rz_q4) (φ : ra_S) (p : Nat) (ψ : ra_S) : Prop := (∀ c, c ≠ 94 → c ≠ 95 → ψ.1 c = φ.1 c) ∧ ψ.2 = φ.2 ∧ (∀ j, j < 8 → ψ.1 94 j = φ.1 94 j ∧ ψ.1 95 j = φ.1 95 j) ∧ ∀ q, q < p → ψ.1 94 (8 + q) = nI (rz_orG np fi (rz_sub Lk q 0)) ∧ ψ.1 95 (8 + q) = nI (rz_orG np fi (rz_sub Lk q 1))
theorem rz_take_all {α : Type} {l : List α} {k : Nat} (h : l.length ≤ k) : l.take k = l := List.take_of_length_le h
/-- a player's row -/
theorem rz_m_lrow {Lk : List rz_q4} {φ : ra_S} (hn : np ≤ 8) (h20 : φ.1 86 20 = nI np) {p : Nat} (hp : p < np)
    (hr0 : (rz_sub Lk p 0).length ≤ 4 ∧ φ.1 99 p = nI (rz_sub Lk p 0).length) (hr1 : (rz_sub Lk p 1).length ≤ 4 ∧ φ.1 100 p = nI (rz_sub Lk p 1).length)
    (hrw : ∀ kd, kd < 2 → ∀ i x, (rz_sub Lk p kd)[i]? = some x → φ.1 97 (8 * p + 4 * kd + i) = nI x.2.2.1 ∧ φ.1 98 (8 * p + 4 * kd + i) = nI x.2.2.2)
    (hb : ∀ x ∈ Lk, x.2.2.2 < 2147483648)
    (hf : ∀ ψ' : ra_S, ψ'.1 92 = φ.1 92 → ∀ x, ra_C 158 [.ref 92, .int 8, .int (nI np), .int x] ψ' = ra_I (if fi x < np then nI (fi x) else -1) ψ') :
    ∀ (d k : Nat) (ψ : ra_S) (v1 : Int32) (o4 : Option Value), k + d = 8 → rz_Rv np fi Lk φ p ψ → ψ.1 94 (8 + p) = nI (rz_orG np fi ((rz_sub Lk p 0).take k)) → ψ.1 95 (8 + p) = nI (rz_orG np fi ((rz_sub Lk p 1).take (k - 4))) → rz_Bd np fi v1 (rz_Vs Lk p k) →
      ∃ (ψ' : ra_S) (v1' : Int32) (o4' : Option Value), ra_D (ra_lay, none, 99999, ra_m169) 34 [some (.ref 86), some (.int v1), some (.int (nI p)), some (.int (nI k)), o4] [] ψ = ra_D (ra_lay, none, 99999, ra_m169) 4 [some (.ref 86), some (.int v1'), some (.int (nI (p + 1))), some (.int 8), o4'] [] ψ' ∧ rz_Rv np fi Lk φ (p + 1) ψ' ∧ rz_Bd np fi v1' (rz_Vs Lk p 8) := by
  intro d
  induction d with
  | zero =>
    intro k ψ v1 o4 hk hR e4 e5 hB
    have : k = 8 := by omega
    subst this
    rw [rz_take_all (by omega)] at e4
    rw [rz_take_all (by omega)] at e5
    refine ⟨ψ, v1, o4, ?_, ⟨hR.1, hR.2.1, hR.2.2.1, fun q hq => ?_⟩, hB⟩
    · rw [e_169_34, if_neg (show ¬ nI 8 < (8 : Int32) by decide), nI_1]; rfl
    · by_cases y : q = p
      · rw [y]; exact ⟨e4, e5⟩
      · exact hR.2.2.2 q (by omega)
  | succ d ih =>
    intro k ψ v1 o4 hk hR e4 e5 hB
    have fr := hR.1
    have go : ∀ (kd i : Nat) (x : rz_q4), kd < 2 → k = 4 * kd + i → i < 4 → (rz_sub Lk p kd)[i]? = some x →
        ∃ (ψ' : ra_S) (v1' : Int32) (o4' : Option Value), ra_D (ra_lay, none, 99999, ra_m169) 73 [some (.ref 86), some (.int v1), some (.int (nI p)), some (.int (nI k)), o4] [] ψ = ra_D (ra_lay, none, 99999, ra_m169) 4 [some (.ref 86), some (.int v1'), some (.int (nI (p + 1))), some (.int 8), o4'] [] ψ' ∧ rz_Rv np fi Lk φ (p + 1) ψ' ∧ rz_Bd np fi v1' (rz_Vs Lk p 8) := by
      intro kd i x hkd hki hi hx
      have hm := rz_sub_mem.mp (List.mem_of_getElem? hx)
      obtain ⟨r1, r2⟩ := hrw kd hkd i x hx
      have tk := rz_take1 hx
      obtain ⟨o4', e⟩ := rz_m_73 (fi := fi) (v1 := v1) hn hp (show k < 8 by omega) (x := x) (ψ := ψ) (by rw [fr 86 (by decide) (by decide)]; exact h20) (by rw [fr 97 (by decide) (by decide), show 8 * p + k = 8 * p + 4 * kd + i by omega]; exact r1) (by rw [fr 98 (by decide) (by decide), show 8 * p + k = 8 * p + 4 * kd + i by omega]; exact r2) hm.2.1 (hf ψ (fr 92 (by decide) (by decide)) _) o4
      rw [e]
      have vs : ∀ y, (rz_Vs Lk p k y ∨ y = x) ↔ rz_Vs Lk p (k + 1) y := by
        intro y
        unfold rz_Vs
        rcases (show kd = 0 ∨ kd = 1 by omega) with z | z
        · subst z
          have k0 : k = i := by omega
          have k1 : k + 1 - 4 = 0 := by omega
          have k2 : k - 4 = 0 := by omega
          rw [k1, k2, k0, tk, List.mem_append, List.mem_singleton]
          constructor
          · rintro ((q | q | q) | q)
            · exact Or.inl q
            · exact Or.inr (Or.inl (Or.inl q))
            · exact Or.inr (Or.inr q)
            · exact Or.inr (Or.inl (Or.inr q))
          · rintro (q | (q | q) | q)
            · exact Or.inl (Or.inl q)
            · exact Or.inl (Or.inr (Or.inl q))
            · exact Or.inr q
            · exact Or.inl (Or.inr (Or.inr q))
        · subst z
          have k1 : k + 1 - 4 = i + 1 := by omega
          have k2 : k - 4 = i := by omega
          rw [k1, k2, tk, List.mem_append, List.mem_singleton, rz_take_all (show (rz_sub Lk p 0).length ≤ k by omega), rz_take_all (show (rz_sub Lk p 0).length ≤ k + 1 by omega)]
          constructor
          · rintro ((q | q | q) | q)
            · exact Or.inl q
            · exact Or.inr (Or.inl q)
            · exact Or.inr (Or.inr (Or.inl q))
            · exact Or.inr (Or.inr (Or.inr q))
          · rintro (q | q | q | q)
            · exact Or.inl (Or.inl q)
            · exact Or.inl (Or.inr (Or.inl q))
            · exact Or.inl (Or.inr (Or.inr q))
            · exact Or.inr q
      by_cases g : rz_good np fi x
      · rw [if_pos g]
        have hB' : rz_Bd np fi v1 (rz_Vs Lk p (k + 1)) := (hB.gd g).iff vs
        rcases (show kd = 0 ∨ kd = 1 by omega) with z | z
        · subst z
          rw [if_pos (show k < 4 by omega)]
          refine ih (k + 1) _ v1 o4' (by omega) ⟨fun c c1 c2 => (ra_ui_1 c c1).trans (fr c c1 c2), hR.2.1, fun j hj => ⟨by rw [ra_ui_get, if_neg (fun q => by omega)]; exact (hR.2.2.1 j hj).1, by rw [ra_ui_1 95 (by decide)]; exact (hR.2.2.1 j hj).2⟩, fun q hq => ⟨by rw [ra_ui_get, if_neg (fun w => by omega)]; exact (hR.2.2.2 q hq).1, by rw [ra_ui_1 95 (by decide)]; exact (hR.2.2.2 q hq).2⟩⟩ ?_ ?_ hB'
          · rw [ra_ui_get, if_pos ⟨rfl, rfl⟩, e4, rz_orN32, show k + 1 = i + 1 by omega, tk, rz_orG_snoc, if_pos g, show k = i by omega]
          · rw [ra_ui_1 95 (by decide), e5, show k - 4 = 0 by omega, show k + 1 - 4 = 0 by omega]
        · subst z
          rw [if_neg (show ¬ k < 4 by omega)]
          refine ih (k + 1) _ v1 o4' (by omega) ⟨fun c c1 c2 => (ra_ui_1 c c2).trans (fr c c1 c2), hR.2.1, fun j hj => ⟨by rw [ra_ui_1 94 (by decide)]; exact (hR.2.2.1 j hj).1, by rw [ra_ui_get, if_neg (fun q => by omega)]; exact (hR.2.2.1 j hj).2⟩, fun q hq => ⟨by rw [ra_ui_1 94 (by decide)]; exact (hR.2.2.2 q hq).1, by rw [ra_ui_get, if_neg (fun w => by omega)]; exact (hR.2.2.2 q hq).2⟩⟩ ?_ ?_ hB'
          · rw [ra_ui_1 94 (by decide), e4, rz_take_all (show (rz_sub Lk p 0).length ≤ k by omega), rz_take_all (show (rz_sub Lk p 0).length ≤ k + 1 by omega)]
          · rw [ra_ui_get, if_pos ⟨rfl, rfl⟩, e5, rz_orN32, show k + 1 - 4 = i + 1 by omega, tk, rz_orG_snoc, if_pos g, show k - 4 = i by omega]
      · rw [if_neg g]
        have hB' := (hB.bd g (hb x hm.1)).iff vs
        refine ih (k + 1) ψ _ o4' (by omega) hR ?_ ?_ hB'
        · rw [e4]
          rcases (show kd = 0 ∨ kd = 1 by omega) with z | z
          · subst z
            rw [show k + 1 = i + 1 by omega, tk, rz_orG_snoc, if_neg g, show k = i by omega]
          · rw [rz_take_all (show (rz_sub Lk p 0).length ≤ k by omega), rz_take_all (show (rz_sub Lk p 0).length ≤ k + 1 by omega)]
        · rw [e5]
          rcases (show kd = 0 ∨ kd = 1 by omega) with z | z
          · rw [show k - 4 = 0 by omega, show k + 1 - 4 = 0 by omega]
          · subst z
            rw [show k + 1 - 4 = i + 1 by omega, tk, rz_orG_snoc, if_neg g, show k - 4 = i by omega]
    have skip : ∀ (kd i : Nat), kd < 2 → k = 4 * kd + i → i < 4 → (rz_sub Lk p kd).length ≤ i →
        ∃ (ψ' : ra_S) (v1' : Int32) (o4' : Option Value), ra_D (ra_lay, none, 99999, ra_m169) 34 [some (.ref 86), some (.int v1), some (.int (nI p)), some (.int (nI (k + 1))), o4] [] ψ = ra_D (ra_lay, none, 99999, ra_m169) 4 [some (.ref 86), some (.int v1'), some (.int (nI (p + 1))), some (.int 8), o4'] [] ψ' ∧ rz_Rv np fi Lk φ (p + 1) ψ' ∧ rz_Bd np fi v1' (rz_Vs Lk p 8) := by
      intro kd i hkd hki hi hs
      have t0 : (rz_sub Lk p 0).take (k + 1) = (rz_sub Lk p 0).take k ∧ (rz_sub Lk p 1).take (k + 1 - 4) = (rz_sub Lk p 1).take (k - 4) := by
        rcases (show kd = 0 ∨ kd = 1 by omega) with z | z
        · subst z
          rw [rz_take_all (show (rz_sub Lk p 0).length ≤ k by omega), rz_take_all (show (rz_sub Lk p 0).length ≤ k + 1 by omega), show k - 4 = 0 by omega, show k + 1 - 4 = 0 by omega]
          exact ⟨rfl, rfl⟩
        · subst z
          rw [rz_take_all (show (rz_sub Lk p 0).length ≤ k by omega), rz_take_all (show (rz_sub Lk p 0).length ≤ k + 1 by omega), rz_take_all (show (rz_sub Lk p 1).length ≤ k - 4 by omega), rz_take_all (show (rz_sub Lk p 1).length ≤ k + 1 - 4 by omega)]
          exact ⟨rfl, rfl⟩
      refine ih (k + 1) ψ v1 o4 (by omega) hR (by rw [t0.1]; exact e4) (by rw [t0.2]; exact e5) (hB.iff (fun y => by unfold rz_Vs; rw [t0.1, t0.2]))
    rw [e_169_34, if_pos (show nI k < (8 : Int32) from nI_lt (b := 8) (by omega) (by omega)), rz_ig (by omega) (by omega), rz_ig (by omega) (by omega), nI_clamp (by omega), fr 99 (by decide) (by decide), fr 100 (by decide) (by decide), hr0.2, hr1.2, nI_1, show (4 : Int32) = nI 4 from rfl, rz_ltt (by omega) (by omega), rz_ltt (by omega) (by omega)]
    by_cases z : k < 4
    · rw [if_pos z]
      by_cases y : k < (rz_sub Lk p 0).length
      · rw [if_pos y]
        exact go 0 k ((rz_sub Lk p 0)[k]'y) (by omega) (by omega) z (List.getElem?_eq_getElem y)
      · rw [if_neg y]
        exact skip 0 k (by omega) (by omega) z (by omega)
    · rw [if_neg z]
      obtain ⟨i, hi⟩ : ∃ i, k = 4 + i := ⟨k - 4, by omega⟩
      have s4 : nI k - nI 4 = nI i := by rw [pk_sub (by omega), show k - 4 = i by omega]
      rw [s4, rz_ltt (by omega) (by omega)]
      by_cases y : i < (rz_sub Lk p 1).length
      · rw [if_pos y]
        exact go 1 i ((rz_sub Lk p 1)[i]'y) (by omega) (by omega) (by omega) (List.getElem?_eq_getElem y)
      · rw [if_neg y]
        exact skip 1 i (by omega) (by omega) (by omega) (by omega)
end RZR2
