-- ===== the world of cells that a store stands for =====
def ra_ce (ad : Nat → Nat) (cA : Nat → ClassId) (σ : ra_S) (i : Nat) : ra_H → va_E
  | .inl q => .inl (cA q.1, q.2, if q.1 = 2 then .inr (.inl (σ.2 i)) else .inl (σ.1 i))
  | .inr o => .inr (o.1, o.2.mapIdx (fun k fk => ra_cv ad (ra_fa σ i k fk)))
def ra_wg (lay : Nat → Option ra_H) (ad : Nat → Nat) (cA : Nat → ClassId) (σ : ra_S) (i : Nat) : Option (Nat × va_E) := (lay i).map (fun sh => (ad i, ra_ce ad cA σ i sh))
/-- the cells that are there -/
def ra_w (lay : Nat → Option ra_H) (ad : Nat → Nat) (cA : Nat → ClassId) (σ : ra_S) : va_W := (List.range ra_nc).filterMap (ra_wg lay ad cA σ)
theorem ra_fm_congr {α β : Type} {f g : α → Option β} : ∀ (l : List α), (∀ x ∈ l, f x = g x) → l.filterMap f = l.filterMap g
  | [], _ => rfl
  | a :: l, h => by
    rw [List.filterMap_cons, List.filterMap_cons, h a List.mem_cons_self, ra_fm_congr l (fun x hx => h x (List.mem_cons_of_mem _ hx))]
section RAW
variable {lay : Nat → Option ra_H} {ad : Nat → Nat} {cA : Nat → ClassId} {σ σ' : ra_S}
theorem ra_ce_congr {j : Nat} (h1 : σ'.1 j = σ.1 j) (h2 : σ'.2 j = σ.2 j) (sh : ra_H) : ra_ce ad cA σ' j sh = ra_ce ad cA σ j sh := by
  cases sh with
  | inl q => unfold ra_ce; rw [h1, h2]
  | inr o =>
    have : (fun k fk => ra_cv ad (ra_fa σ' j k fk)) = (fun k fk => ra_cv ad (ra_fa σ j k fk)) := by
      funext k fk
      cases fk with
      | inl b => cases b <;> simp only [ra_fa, h1, h2]
      | inr z => rfl
    unfold ra_ce
    rw [this]
theorem ra_range_split {i n : Nat} (h : i < n) : List.range n = List.range i ++ i :: (List.range (n - i - 1)).map (fun k => i + 1 + k) := by
  apply List.ext_getElem?
  intro j
  rw [List.getElem?_append, List.length_range]
  by_cases h1 : j < i
  · rw [if_pos h1, List.getElem?_range h1, List.getElem?_range (by omega)]
  · rw [if_neg h1]
    by_cases h2 : j = i
    · subst h2
      rw [List.getElem?_range h]
      simp
    · obtain ⟨d, rfl⟩ : ∃ d, j = i + 1 + d := ⟨j - (i + 1), by omega⟩
      rw [show i + 1 + d - i = d + 1 by omega, List.getElem?_cons_succ, List.getElem?_map]
      by_cases h3 : i + 1 + d < n
      · rw [List.getElem?_range h3, List.getElem?_range (by omega)]; rfl
      · rw [List.getElem?_eq_none (by rw [List.length_range]; omega), List.getElem?_eq_none (by rw [List.length_range]; omega)]; rfl
/-- a cell's place, and what a write of it alone does -/
theorem ra_w_cell {i : Nat} {sh : ra_H} (hi : i < ra_nc) (h : lay i = some sh) (σ : ra_S) : ∃ q0 : Nat, (ra_w lay ad cA σ)[q0]? = some (ad i, ra_ce ad cA σ i sh) ∧ ∀ σ' : ra_S, (∀ j, j ≠ i → σ'.1 j = σ.1 j) → (∀ j, j ≠ i → σ'.2 j = σ.2 j) → ra_w lay ad cA σ' = (ra_w lay ad cA σ).set q0 (ad i, ra_ce ad cA σ' i sh) := by
  have hsp : ∀ τ : ra_S, ra_w lay ad cA τ = (List.range i).filterMap (ra_wg lay ad cA τ) ++ (ad i, ra_ce ad cA τ i sh) :: ((List.range (ra_nc - i - 1)).map (fun k => i + 1 + k)).filterMap (ra_wg lay ad cA τ) := by
    intro τ
    unfold ra_w
    rw [ra_range_split hi, List.filterMap_append, List.filterMap_cons]
    have : ra_wg lay ad cA τ i = some (ad i, ra_ce ad cA τ i sh) := by unfold ra_wg; rw [h]; rfl
    rw [this]
  refine ⟨((List.range i).filterMap (ra_wg lay ad cA σ)).length, ?_, fun σ' h1 h2 => ?_⟩
  · rw [hsp, List.getElem?_append_right (Nat.le_refl _), Nat.sub_self]; rfl
  · have hg : ∀ j, j ≠ i → ra_wg lay ad cA σ' j = ra_wg lay ad cA σ j := by
      intro j hj
      unfold ra_wg
      cases lay j with
      | none => rfl
      | some z => simp only [Option.map_some]; rw [ra_ce_congr (h1 j hj) (h2 j hj)]
    have e1 : (List.range i).filterMap (ra_wg lay ad cA σ') = (List.range i).filterMap (ra_wg lay ad cA σ) := ra_fm_congr _ (fun j hj => hg j (Nat.ne_of_lt (List.mem_range.mp hj)))
    have e2 : ((List.range (ra_nc - i - 1)).map (fun k => i + 1 + k)).filterMap (ra_wg lay ad cA σ') = ((List.range (ra_nc - i - 1)).map (fun k => i + 1 + k)).filterMap (ra_wg lay ad cA σ) := ra_fm_congr _ (fun j hj => by
      obtain ⟨k, -, rfl⟩ := List.mem_map.mp hj
      exact hg _ (by omega))
    rw [hsp σ', hsp σ, e1, e2, List.set_append, if_neg (Nat.lt_irrefl _), Nat.sub_self]
    rfl
theorem ra_w_mem {k : Nat} {q : Nat × va_E} (h : (ra_w lay ad cA σ)[k]? = some q) : ∃ i, i < ra_nc ∧ q.1 = ad i := by
  obtain ⟨i, hi, h1⟩ := List.mem_filterMap.mp (List.mem_of_getElem? h)
  refine ⟨i, List.mem_range.mp hi, ?_⟩
  unfold ra_wg at h1
  cases hl : lay i with
  | none => rw [hl] at h1; cases h1
  | some z => rw [hl] at h1; cases h1; rfl
theorem ra_w_D {A0 : Nat → Prop} (hinj : ∀ i j, i < ra_nc → j < ra_nc → ad i = ad j → i = j) (hA : ∀ i, i < ra_nc → A0 (ad i)) : va_D A0 (ra_w lay ad cA σ) := by
  have hp : (ra_w lay ad cA σ).Pairwise (fun a b => a.1 ≠ b.1) := by
    unfold ra_w
    rw [List.pairwise_filterMap]
    have hlt : (List.range ra_nc).Pairwise (fun a b => a < ra_nc ∧ b < ra_nc ∧ a ≠ b) := by
      rw [List.pairwise_iff_getElem]
      intro i j hi hj hij
      rw [List.length_range] at hi hj
      simp only [List.getElem_range]
      exact ⟨hi, hj, Nat.ne_of_lt hij⟩
    refine hlt.imp ?_
    intro a b hab x hx y hy
    unfold ra_wg at hx hy
    cases h1 : lay a with
    | none => rw [h1] at hx; cases hx
    | some z1 =>
      cases h2 : lay b with
      | none => rw [h2] at hy; cases hy
      | some z2 =>
        rw [h1] at hx
        rw [h2] at hy
        cases hx
        cases hy
        exact fun q => hab.2.2 (hinj a b hab.1 hab.2.1 q)
  rw [List.pairwise_iff_getElem] at hp
  refine ⟨fun i j p q h1 h2 he => ?_, fun k q hk => ?_⟩
  · obtain ⟨hi, e1⟩ := List.getElem?_eq_some_iff.mp h1
    obtain ⟨hj, e2⟩ := List.getElem?_eq_some_iff.mp h2
    rcases Nat.lt_trichotomy i j with q1 | q1 | q1
    · exact absurd he (by rw [← e1, ← e2]; exact hp i j hi hj q1)
    · exact q1
    · exact absurd he.symm (by rw [← e1, ← e2]; exact hp j i hj hi q1)
  · obtain ⟨i, hi, e⟩ := ra_w_mem hk
    rw [e]
    exact hA i hi
theorem ra_ui_1 {i k : Nat} {x : Int32} (j : Nat) (h : j ≠ i) : (ra_ui σ i k x).1 j = σ.1 j := by unfold ra_ui; exact if_neg h
theorem ra_ui_s {i k : Nat} {x : Int32} : (ra_ui σ i k x).1 i = upd (σ.1 i) k x := by unfold ra_ui; exact if_pos rfl
theorem ra_ul_2 {i k : Nat} {x : Int64} (j : Nat) (h : j ≠ i) : (ra_ul σ i k x).2 j = σ.2 j := by unfold ra_ul; exact if_neg h
theorem ra_ul_s {i k : Nat} {x : Int64} : (ra_ul σ i k x).2 i = vp_updL (σ.2 i) k x := by unfold ra_ul; exact if_pos rfl
theorem ra_fs {i k : Nat} {fks : List (Bool ⊕ Nat)} {fk : Bool ⊕ Nat} (h : fks[k]? = some fk) : (fks.mapIdx (fun k fk => ra_cv ad (ra_fa σ i k fk)))[k]? = some (ra_cv ad (ra_fa σ i k fk)) := by
  rw [List.getElem?_mapIdx, h]; rfl
theorem ra_ce_ui {i ci k : Nat} {fks : List (Bool ⊕ Nat)} {x : Int32} (hk : fks[k]? = some (.inl false)) : ra_ce ad cA (ra_ui σ i k x) i (.inr (ci, fks)) = .inr (ci, (fks.mapIdx (fun k fk => ra_cv ad (ra_fa σ i k fk))).set k (.int x)) := by
  show (Sum.inr (ci, _) : va_E) = Sum.inr (ci, _)
  congr 2
  apply List.ext_getElem?
  intro j
  rw [List.getElem?_mapIdx, List.getElem?_set, List.getElem?_mapIdx, List.length_mapIdx]
  by_cases hj : k = j
  · subst hj
    rw [if_pos rfl, if_pos (List.getElem?_eq_some_iff.mp hk).1, hk]
    show some (Value.int ((ra_ui σ i k x).1 i k)) = some (.int x)
    rw [ra_ui_s]
    unfold upd
    rw [if_pos rfl]
  · rw [if_neg hj]
    cases fks[j]? with
    | none => rfl
    | some fk =>
      cases fk with
      | inr z => rfl
      | inl b =>
        cases b with
        | true => rfl
        | false =>
          show some (Value.int ((ra_ui σ i k x).1 i j)) = some (.int (σ.1 i j))
          rw [ra_ui_s]
          unfold upd
          rw [if_neg (fun q => hj q.symm)]
theorem ra_ce_ul {i ci k : Nat} {fks : List (Bool ⊕ Nat)} {x : Int64} (hk : fks[k]? = some (.inl true)) : ra_ce ad cA (ra_ul σ i k x) i (.inr (ci, fks)) = .inr (ci, (fks.mapIdx (fun k fk => ra_cv ad (ra_fa σ i k fk))).set k (.long x)) := by
  show (Sum.inr (ci, _) : va_E) = Sum.inr (ci, _)
  congr 2
  apply List.ext_getElem?
  intro j
  rw [List.getElem?_mapIdx, List.getElem?_set, List.getElem?_mapIdx, List.length_mapIdx]
  by_cases hj : k = j
  · subst hj
    rw [if_pos rfl, if_pos (List.getElem?_eq_some_iff.mp hk).1, hk]
    show some (Value.long ((ra_ul σ i k x).2 i k)) = some (.long x)
    rw [ra_ul_s]
    unfold vp_updL
    rw [if_pos rfl]
  · rw [if_neg hj]
    cases fks[j]? with
    | none => rfl
    | some fk =>
      cases fk with
      | inr z => rfl
      | inl b =>
        cases b with
        | false => rfl
        | true =>
          show some (Value.long ((ra_ul σ i k x).2 i j)) = some (.long (σ.2 i j))
          rw [ra_ul_s]
          unfold vp_updL
          rw [if_neg (fun q => hj q.symm)]
theorem ra_ce_ai {i ty n k : Nat} {x : Int32} (hty : ty ≠ 2) : ra_ce ad cA (ra_ui σ i k x) i (.inl (ty, n)) = .inl (cA ty, n, .inl (upd (σ.1 i) k x)) := by
  unfold ra_ce
  rw [ra_ui_s]
  simp only [hty, if_false]
theorem ra_ce_al {i n k : Nat} {x : Int64} : ra_ce ad cA (ra_ul σ i k x) i (.inl (2, n)) = .inl (cA 2, n, .inr (.inl (vp_updL (σ.2 i) k x))) := by
  unfold ra_ce
  rw [ra_ul_s]
  simp only [if_true]
theorem ra_ce_cp {i j n m : Nat} : ra_ce ad cA (ra_cp σ i j m) j (.inl (0, n)) = .inl (cA 0, n, .inl (va_cpy (σ.1 i) (σ.1 j) 0 0 m)) := by
  have e : (ra_cp σ i j m).1 j = va_cpy (σ.1 i) (σ.1 j) 0 0 m := by unfold ra_cp; exact if_pos rfl
  unfold ra_ce
  rw [e]
  simp
theorem ra_cp_1 {i j m : Nat} (k : Nat) (h : k ≠ j) : (ra_cp σ i j m).1 k = σ.1 k := by unfold ra_cp; exact if_neg h
theorem ra_ce_a {i ty n : Nat} (hty : ty ≠ 2) : ra_ce ad cA σ i (.inl (ty, n)) = .inl (cA ty, n, .inl (σ.1 i)) := by
  unfold ra_ce
  simp only [hty, if_false]
theorem ra_ce_a2 {i n : Nat} : ra_ce ad cA σ i (.inl (2, n)) = .inl (cA 2, n, .inr (.inl (σ.2 i))) := by
  unfold ra_ce
  simp only [if_true]
end RAW
theorem ra_gd_some {α : Type} {b : Bool} {x : Option α} {r : α} (h : ra_gd b x = some r) : b = true ∧ x = some r := by
  cases b with
  | true => exact ⟨rfl, h⟩
  | false => cases h
theorem ra_gp_some {α : Type} {c : Prop} [Decidable c] {x : Option α} {r : α} (h : ra_gp c x = some r) : c ∧ x = some r := by
  unfold ra_gp at h
  split at h
  · rename_i hc; exact ⟨hc, h⟩
  · cases h
theorem ra_el_some {lay : Nat → Option ra_H} {ty i : Nat} {j : Int32} {x : Option ra_R} {r : ra_R} (h : ra_el lay ty i j x = some r) : ∃ n, lay i = some (.inl (ty, n)) ∧ vp_in j n ∧ x = some r := by
  unfold ra_el at h
  split at h
  · rename_i ty' m hl
    obtain ⟨h1, h2⟩ := ra_gd_some h
    have := Nat.eq_of_beq_eq_true h1
    subst this
    split at h2
    · rename_i hc; exact ⟨m, hl, vp_in_iff.mpr hc, h2⟩
    · cases h2
  · cases h
theorem ra_fd_some {lay : Nat → Option ra_H} {i ci k : Nat} {x : (Bool ⊕ Nat) → Option ra_R} {r : ra_R} (h : ra_fd lay i ci k x = some r) : ∃ fks fk, lay i = some (.inr (ci, fks)) ∧ fks[k]? = some fk ∧ x fk = some r := by
  unfold ra_fd at h
  split at h
  · rename_i ci' fks hl
    obtain ⟨h1, h2⟩ := ra_gd_some h
    have := Nat.eq_of_beq_eq_true h1
    subst this
    split at h2
    · rename_i fk hk; exact ⟨fks, fk, hl, hk, h2⟩
    · cases h2
  · cases h
theorem ra_tsw_some {α : Type} {k : Nat → Option α} {pc : Nat} {x : Int32} {d : Option α} {r : α} : ∀ (os : List Int) (v : Int), ra_tsw k pc x d v os = some r → (∃ (j : Nat) (o : Int), os[j]? = some o ∧ x = Int32.ofInt (v + j) ∧ k (((pc : Int) + o).toNat) = some r) ∨ ((∀ j : Nat, j < os.length → x ≠ Int32.ofInt (v + j)) ∧ d = some r)
  | [], v, h => Or.inr ⟨fun j hj => absurd hj (Nat.not_lt_zero _), h⟩
  | o :: os, v, h => by
    unfold ra_tsw at h
    split at h
    · rename_i hx
      exact Or.inl ⟨0, o, rfl, by rw [hx]; simp, h⟩
    · rename_i hx
      rcases ra_tsw_some os (v + 1) h with ⟨j, o', h1, h2, h3⟩ | ⟨h1, h2⟩
      · exact Or.inl ⟨j + 1, o', by simpa using h1, by rw [h2]; congr 1; push_cast; omega, h3⟩
      · refine Or.inr ⟨fun j hj => ?_, h2⟩
        cases j with
        | zero => simpa using hx
        | succ j =>
          have := h1 j (by simpa using hj)
          intro q
          exact this (by rw [q]; congr 1; push_cast; omega)
theorem ra_lsw_some {α : Type} {k : Nat → Option α} {pc : Nat} {x : Int32} {d : Int} {r : α} : ∀ (os : List (Int × Int)), os.all (fun q => decide (0 ≤ (pc : Int) + q.2) && decide (0 ≤ q.1 ∧ q.1 < 1000)) = true → 0 ≤ (pc : Int) + d → ra_lsw k pc x (k (((pc : Int) + d).toNat)) os = some r → ∃ o, Op.lookupswitch.offset os d x.toInt = o ∧ 0 ≤ (pc : Int) + o ∧ k (((pc : Int) + o).toNat) = some r
  | [], _, hd, h => ⟨d, rfl, hd, h⟩
  | o :: os, ha, hd, h => by
    rw [List.all_cons] at ha
    simp only [Bool.and_eq_true, decide_eq_true_eq] at ha
    unfold ra_lsw at h
    rw [show o = (o.1, o.2) from rfl, Op.lookupswitch.offset_cons]
    have ht : (Int32.ofInt o.1).toInt = o.1 := Int32.toInt_ofInt_of_le (by omega) (by omega)
    split at h
    · rename_i hx
      refine ⟨o.2, ?_, ha.1.1, h⟩
      rw [if_pos (by rw [hx]; exact ht.symm)]
    · rename_i hx
      obtain ⟨o', h1, h2, h3⟩ := ra_lsw_some os ha.2 hd h
      refine ⟨o', ?_, h2, h3⟩
      rw [if_neg (fun q => hx (Int32.toInt_inj.mp (by rw [ht]; exact q.symm)))]
      exact h1
