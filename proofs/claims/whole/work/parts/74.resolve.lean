-- ===== text: who sees and hears whom, looked up when all is read =====
theorem rz_fiP {τ ψ : ra_S} {np : Nat} (hn : np ≤ 8) (h : ∀ l, l < np → τ.1 36 l = ψ.1 92 (8 + l)) : ∃ fi : Int32 → Nat, ∀ x : Int32, ∀ τ' ψ' : ra_S, τ'.1 36 = τ.1 36 → ψ'.1 92 = ψ.1 92 →
    ra_C 137 [.ref 36, .int (nI np), .int x] τ' = ra_I (if fi x < np then nI (fi x) else -1) τ' ∧ ra_C 158 [.ref 92, .int 8, .int (nI np), .int x] ψ' = ra_I (if fi x < np then nI (fi x) else -1) ψ' := by
  have key0 : ∀ x : Int32, ∃ fx : Nat, ∀ τ' ψ' : ra_S, τ'.1 36 = τ.1 36 → ψ'.1 92 = ψ.1 92 → ra_C 137 [.ref 36, .int (nI np), .int x] τ' = ra_I (if fx < np then nI fx else -1) τ' ∧ ra_C 158 [.ref 92, .int 8, .int (nI np), .int x] ψ' = ra_I (if fx < np then nI fx else -1) ψ' := by
    intro x
    obtain ⟨r, e1, e2, hr⟩ := rz_findP hn h x
    have inj : ∀ {r r' : Int32} {σ : ra_S}, ra_I r σ = ra_I r' σ → r = r' := fun q => by injection q with q; injection q with q; injection q with q; injection q with q; injection q
    have key : ∀ τ' ψ' : ra_S, τ'.1 36 = τ.1 36 → ψ'.1 92 = ψ.1 92 → ra_C 137 [.ref 36, .int (nI np), .int x] τ' = ra_I r τ' ∧ ra_C 158 [.ref 92, .int 8, .int (nI np), .int x] ψ' = ra_I r ψ' := by
      intro τ' ψ' h1 h2
      obtain ⟨r1, a1, a2, -⟩ := rz_findP (τ := τ') (ψ := ψ) hn (fun l hl => by rw [h1]; exact h l hl) x
      obtain ⟨r2, b1, b2, -⟩ := rz_findP (τ := τ) (ψ := ψ') hn (fun l hl => by rw [h2]; exact h l hl) x
      have q1 : r1 = r := inj (a2.symm.trans e2)
      have q2 : r2 = r := inj (b1.symm.trans e1)
      subst q1
      rw [q2] at b2
      exact ⟨a1, b2⟩
    rcases hr with ⟨l, l1, rfl, -⟩ | ⟨rfl, -⟩
    · exact ⟨l, by rw [if_pos l1]; exact key⟩
    · exact ⟨np, by rw [if_neg (Nat.lt_irrefl np)]; exact key⟩
  exact Classical.skolem.mp key0
section RZRS
variable {np : Nat} {fi : Int32 → Nat}
abbrev rz_q4 : Type := Nat × Nat × Nat × Nat
abbrev rz_good (np : Nat) (fi : Int32 → Nat) (x : rz_q4) : Prop := fi (nI x.2.2.1) < np ∧ ¬ fi (nI x.2.2.1) = x.1
def rz_orG (np : Nat) (fi : Int32 → Nat) (S : List rz_q4) : Nat := S.foldl (fun b x => if rz_good np fi x then b ||| 2 ^ fi (nI x.2.2.1) else b) 0
theorem rz_orG_nil : rz_orG np fi [] = 0 := rfl
theorem rz_orG_snoc (S : List rz_q4) (x : rz_q4) : rz_orG np fi (S ++ [x]) = if rz_good np fi x then rz_orG np fi S ||| 2 ^ fi (nI x.2.2.1) else rz_orG np fi S := by
  unfold rz_orG
  rw [List.foldl_append]
  rfl
theorem rz_orG_ok {p : Nat} (S : List rz_q4) (h : ∀ x ∈ S, x.1 = p) : rz_orG np fi S < 2 ^ np ∧ (rz_orG np fi S).testBit p = false := by
  have go : ∀ (S : List rz_q4) (b : Nat), (∀ x ∈ S, x.1 = p) → b < 2 ^ np ∧ b.testBit p = false → S.foldl (fun b x => if rz_good np fi x then b ||| 2 ^ fi (nI x.2.2.1) else b) b < 2 ^ np ∧ (S.foldl (fun b x => if rz_good np fi x then b ||| 2 ^ fi (nI x.2.2.1) else b) b).testBit p = false := by
    intro S
    induction S with
    | nil => intro b _ hb; exact hb
    | cons x S ih =>
      intro b hS hb
      rw [List.foldl_cons]
      refine ih _ (fun y hy => hS y (List.mem_cons_of_mem _ hy)) ?_
      by_cases g : rz_good np fi x
      · rw [if_pos g]
        have hx := hS x List.mem_cons_self
        refine ⟨Nat.or_lt_two_pow hb.1 (Nat.pow_lt_pow_right (by decide) g.1), ?_⟩
        rw [Nat.testBit_or, hb.2, Bool.false_or, Nat.testBit_two_pow]
        exact decide_eq_false (fun q => g.2 (q.trans hx.symm))
      · rw [if_neg g]; exact hb
  exact go S 0 h ⟨Nat.two_pow_pos np, Nat.zero_testBit p⟩
theorem rz_shN : ∀ q : Fin 8, ((1 : Int32) <<< (nI q.val &&& 31)) = nI (2 ^ q.val) := by decide +kernel
theorem rz_sub_mem {Lk : List rz_q4} {p kd : Nat} {x : rz_q4} : x ∈ rz_sub Lk p kd ↔ x ∈ Lk ∧ x.1 = p ∧ x.2.1 = kd := by
  unfold rz_sub
  rw [List.mem_filter]
  simp only [Bool.and_eq_true, beq_iff_eq]
/-- the class goes along its row -/
theorem rz_c_res {Lk : List rz_q4} {υ : ra_S} (hn : np ≤ 8) (h0 : υ.1 35 0 = nI np) (hL : υ.1 5 0 = nI Lk.length) (hl : Lk.length ≤ 64)
    (hx : ∀ i x, Lk[i]? = some x → υ.1 6 i = nI x.1 ∧ υ.1 7 i = nI (13 + x.2.1) ∧ υ.1 8 i = nI x.2.2.1 ∧ υ.1 9 i = nI x.2.2.2 ∧ x.1 < np ∧ x.2.1 < 2)
    (hf : ∀ τ' : ra_S, τ'.1 36 = υ.1 36 → ∀ x, ra_C 137 [.ref 36, .int (nI np), .int x] τ' = ra_I (if fi x < np then nI (fi x) else -1) τ') :
    ∀ (d i : Nat) (τ : ra_S) (o3 o4 : Option Value), i + d = Lk.length → (∀ c, c ≠ 42 → c ≠ 43 → τ.1 c = υ.1 c) → τ.2 = υ.2 →
      (∀ p, p < np → τ.1 42 p = nI (rz_orG np fi (rz_sub (Lk.take i) p 0)) ∧ τ.1 43 p = nI (rz_orG np fi (rz_sub (Lk.take i) p 1))) → (∀ x ∈ Lk.take i, rz_good np fi x) →
      (∃ τ' : ra_S, ra_D (ra_lay, none, 99999, ra_m41) 2 [some (.ref 1), some (.ref 35), some (.int (nI i)), o3, o4] [] τ = ra_I 1 τ' ∧ (∀ c, c ≠ 42 → c ≠ 43 → τ'.1 c = υ.1 c) ∧ τ'.2 = υ.2 ∧ (∀ p, p < np → τ'.1 42 p = nI (rz_orG np fi (rz_sub Lk p 0)) ∧ τ'.1 43 p = nI (rz_orG np fi (rz_sub Lk p 1))) ∧ ∀ x ∈ Lk, rz_good np fi x) ∨
      (∃ (τ' : ra_S) (x : rz_q4) (j : Nat), ra_D (ra_lay, none, 99999, ra_m41) 2 [some (.ref 1), some (.ref 35), some (.int (nI i)), o3, o4] [] τ = ra_I 0 (ra_ui (ra_ui τ' 1 2 6) 1 3 (nI x.2.2.2)) ∧ (∀ c, c ≠ 42 → c ≠ 43 → τ'.1 c = υ.1 c) ∧ τ'.2 = υ.2 ∧ Lk[j]? = some x ∧ ¬ rz_good np fi x ∧ ∀ y ∈ Lk.take j, rz_good np fi y) := by
  intro d
  induction d with
  | zero =>
    intro i τ o3 o4 hi hc h2 hp hg
    have : i = Lk.length := by omega
    subst this
    rw [List.take_length] at hp hg
    rw [e_41_2, hc 5 (by decide) (by decide), hL, rz_inl (by omega) (by omega)]
    exact Or.inl ⟨τ, rfl, hc, h2, hp, hg⟩
  | succ d ih =>
    intro i τ o3 o4 hi hc h2 hp hg
    obtain ⟨x, hxi⟩ : ∃ x, Lk[i]? = some x := ⟨Lk[i]'(by omega), List.getElem?_eq_getElem (by omega)⟩
    obtain ⟨x1, x2, x3, x4, x5, x6⟩ := hx i x hxi
    have tk := rz_take1 hxi
    rw [e_41_2, hc 5 (by decide) (by decide), hL, rz_il (by omega) (by omega), if_pos (show nI i < (64 : Int32) from nI_lt (b := 64) (by omega) (by omega)), rz_ig (by omega) (by omega), rz_ig (by omega) (by omega), nI_clamp (by omega), hc 35 (by decide) (by decide), h0, hc 8 (by decide) (by decide), x3, hf τ (hc 36 (by decide) (by decide)), ra_kI, hc 6 (by decide) (by decide), x1, hc 7 (by decide) (by decide), x2]
    by_cases g : rz_good np fi x
    · obtain ⟨g1, g2⟩ := g
      have q8 : fi (nI x.2.2.1) < 8 := by omega
      have sh : ((1 : Int32) <<< (nI (fi (nI x.2.2.1)) &&& 31)) = nI (2 ^ fi (nI x.2.2.1)) := rz_shN ⟨_, q8⟩
      have l1 : ra_C 56 [.ref 35, .int (nI x.1), .int 1, .int (nI (fi (nI x.2.2.1)))] τ = ra_V (ra_ui τ 42 x.1 (τ.1 42 x.1 ||| nI (2 ^ fi (nI x.2.2.1)))) := by
        rw [e_56, hc 35 (by decide) (by decide), h0, if_neg (nI_pos (by omega)), rz_il (by omega) x5, if_neg (show ¬ (1 : Int32) = 0 by decide), rz_ig (by omega) (by omega), rz_ig (by omega) (by omega), nI_clamp (by omega), sh]
      have l0 : ra_C 56 [.ref 35, .int (nI x.1), .int 0, .int (nI (fi (nI x.2.2.1)))] τ = ra_V (ra_ui τ 43 x.1 (τ.1 43 x.1 ||| nI (2 ^ fi (nI x.2.2.1)))) := by
        rw [e_56, hc 35 (by decide) (by decide), h0, if_neg (nI_pos (by omega)), rz_il (by omega) x5, if_pos (show (0 : Int32) = 0 from rfl), rz_ig (by omega) (by omega), rz_ig (by omega) (by omega), nI_clamp (by omega), sh]
      rw [if_pos g1, if_neg (nI_nm1 (by omega)), rz_lit (by omega) (by omega), if_neg g2, rz_ig (by omega) (by omega), show (13 : Int32) = nI 13 from rfl, rz_lit (by omega) (by omega), l1, l0, ra_kV, ra_kV, (hp x.1 x5).1, (hp x.1 x5).2, rz_orN32, rz_orN32, nI_1]
      have gd : rz_good np fi x := ⟨g1, g2⟩
      have hg' : ∀ y ∈ Lk.take (i + 1), rz_good np fi y := fun y hy => by
        rw [tk] at hy
        rcases List.mem_append.mp hy with q | q
        · exact hg y q
        · rw [List.mem_singleton.mp q]; exact gd
      rcases (show x.2.1 = 0 ∨ x.2.1 = 1 by omega) with z | z
      · rw [if_pos (by omega)]
        refine ih (i + 1) _ _ _ (by omega) (fun c c1 c2 => (ra_ui_1 c c1).trans (hc c c1 c2)) h2 (fun p hp' => ?_) hg'
        rw [tk, rz_sub_app, rz_sub_app, rz_sub_one, rz_sub_one, ra_ui_get, ra_ui_1 43 (by decide), z, if_neg (show ¬ (x.1 = p ∧ 0 = 1) by omega), List.append_nil]
        refine ⟨?_, (hp p hp').2⟩
        by_cases y : x.1 = p
        · rw [if_pos ⟨rfl, y.symm⟩, if_pos ⟨y, rfl⟩, rz_orG_snoc, if_pos gd, y]
        · rw [if_neg (fun q => y q.2.symm), if_neg (fun q => y q.1), List.append_nil]; exact (hp p hp').1
      · rw [if_neg (by omega)]
        refine ih (i + 1) _ _ _ (by omega) (fun c c1 c2 => (ra_ui_1 c c2).trans (hc c c1 c2)) h2 (fun p hp' => ?_) hg'
        rw [tk, rz_sub_app, rz_sub_app, rz_sub_one, rz_sub_one, ra_ui_1 42 (by decide), ra_ui_get, z, if_neg (show ¬ (x.1 = p ∧ 1 = 0) by omega), List.append_nil]
        refine ⟨(hp p hp').1, ?_⟩
        by_cases y : x.1 = p
        · rw [if_pos ⟨rfl, y.symm⟩, if_pos ⟨y, rfl⟩, rz_orG_snoc, if_pos gd, y]
        · rw [if_neg (fun q => y q.2.symm), if_neg (fun q => y q.1), List.append_nil]; exact (hp p hp').2
    · refine Or.inr ⟨τ, x, i, ?_, hc, h2, hxi, g, hg⟩
      have bad : ∀ o3 o4, ra_D (ra_lay, none, 99999, ra_m41) 63 [some (.ref 1), some (.ref 35), some (.int (nI i)), o3, o4] [] τ = ra_I 0 (ra_ui (ra_ui τ 1 2 6) 1 3 (nI x.2.2.2)) := by
        intro o3 o4
        rw [e_41_63, rz_ig (by omega) (by omega), nI_clamp (by omega), hc 9 (by decide) (by decide), x4, e_40, ra_kI, rz_b01]
      by_cases g1 : fi (nI x.2.2.1) < np
      · have g2 : fi (nI x.2.2.1) = x.1 := Classical.byContradiction (fun q => g ⟨g1, q⟩)
        rw [if_pos g1, if_neg (nI_nm1 (by omega)), if_pos (by rw [g2]), bad]
      · rw [if_neg g1, if_pos rfl, bad]
/-- the place of the first that can't stand, among those seen so far -/
def rz_Bd (np : Nat) (fi : Int32 → Nat) (v : Int32) (S : rz_q4 → Prop) : Prop := (v = -1 ∧ ∀ y, S y → rz_good np fi y) ∨ (∃ x, S x ∧ x.2.2.2 < 2147483648 ∧ ¬ rz_good np fi x ∧ v = nI x.2.2.2 ∧ ∀ y, S y → ¬ rz_good np fi y → x.2.2.2 ≤ y.2.2.2)
theorem rz_Bd.iff {v : Int32} {S S' : rz_q4 → Prop} (h : rz_Bd np fi v S) (e : ∀ y, S y ↔ S' y) : rz_Bd np fi v S' := by
  have : S = S' := funext fun y => propext (e y)
  rw [← this]; exact h
theorem rz_Bd.gd {v : Int32} {S : rz_q4 → Prop} {x : rz_q4} (h : rz_Bd np fi v S) (g : rz_good np fi x) : rz_Bd np fi v (fun y => S y ∨ y = x) := by
  rcases h with ⟨h1, h2⟩ | ⟨z, h1, h2, h3, h4, h5⟩
  · exact Or.inl ⟨h1, fun y hy => by
      rcases hy with q | q
      · exact h2 y q
      · rw [q]; exact g⟩
  · exact Or.inr ⟨z, Or.inl h1, h2, h3, h4, fun y hy hb => by
      rcases hy with q | q
      · exact h5 y q hb
      · rw [q] at hb; exact absurd g hb⟩
theorem rz_Bd.bd {v : Int32} {S : rz_q4 → Prop} {x : rz_q4} (h : rz_Bd np fi v S) (g : ¬ rz_good np fi x) (hx : x.2.2.2 < 2147483648) : rz_Bd np fi (if v < 0 then nI x.2.2.2 else if nI x.2.2.2 < v then nI x.2.2.2 else v) (fun y => S y ∨ y = x) := by
  rcases h with ⟨rfl, h2⟩ | ⟨z, h1, h2, h3, rfl, h5⟩
  · rw [if_pos (by decide)]
    exact Or.inr ⟨x, Or.inr rfl, hx, g, rfl, fun y hy hb => by
      rcases hy with q | q
      · exact absurd (h2 y q) hb
      · rw [q]; exact Nat.le_refl _⟩
  · rw [if_neg (nI_pos h2), rz_ltt hx h2]
    by_cases l : x.2.2.2 < z.2.2.2
    · rw [if_pos l]
      exact Or.inr ⟨x, Or.inr rfl, hx, g, rfl, fun y hy hb => by
        rcases hy with q | q
        · have := h5 y q hb; omega
        · rw [q]; exact Nat.le_refl _⟩
    · rw [if_neg l]
      exact Or.inr ⟨z, Or.inl h1, h2, h3, rfl, fun y hy hb => by
        rcases hy with q | q
        · exact h5 y q hb
        · rw [q]; omega⟩
end RZRS
