-- ===== the world of cells that a store stands for =====
def ra_ce (ad : Nat → Nat) (cA : Nat → ClassId) (σ : ra_S) (i : Nat) : ra_H → va_E
  | .inl q => .inl (cA q.1, q.2, if q.1 = 2 then .inr (.inl (σ.2 i)) else .inl (σ.1 i))
  | .inr o => .inr (o.1, o.2.mapIdx (fun k fk => ra_cv ad (ra_fa σ i k fk)))
def ra_w (ad : Nat → Nat) (cA : Nat → ClassId) (σ : ra_S) : va_W := (List.range ra_nc).map (fun i => (ad i, ra_ce ad cA σ i ((ra_lay i).getD ra_c0)))
section RAW
variable {ad : Nat → Nat} {cA : Nat → ClassId} {σ σ' : ra_S}
theorem ra_w_at {i : Nat} {sh : ra_H} (h : ra_lay i = some sh) : (ra_w ad cA σ)[i]? = some (ad i, ra_ce ad cA σ i sh) := by
  unfold ra_w
  rw [List.getElem?_map, List.getElem?_range (ra_lay_lt h)]
  simp only [Option.map_some, h, Option.getD_some]
theorem ra_ce_congr {j : Nat} (h1 : σ'.1 j = σ.1 j) (h2 : σ'.2 j = σ.2 j) (sh : ra_H) : ra_ce ad cA σ' j sh = ra_ce ad cA σ j sh := by
  cases sh with
  | inl q => unfold ra_ce; rw [h1, h2]
  | inr o =>
    have : (fun k fk => ra_cv ad (ra_fa σ' j k fk)) = (fun k fk => ra_cv ad (ra_fa σ j k fk)) := by
      funext k fk
      cases fk with
      | inl b => cases b <;> simp only [ra_fa, h1, h2]
      | inr z => rfl
    unfold ra_ce
    rw [this]
theorem ra_w_set {i : Nat} {sh : ra_H} (h : ra_lay i = some sh) (h1 : ∀ j, j ≠ i → σ'.1 j = σ.1 j) (h2 : ∀ j, j ≠ i → σ'.2 j = σ.2 j) : ra_w ad cA σ' = (ra_w ad cA σ).set i (ad i, ra_ce ad cA σ' i sh) := by
  apply List.ext_getElem?
  intro j
  rw [List.getElem?_set]
  by_cases hij : i = j
  · subst hij
    have hlen : i < (ra_w ad cA σ).length := by unfold ra_w; rw [List.length_map, List.length_range]; exact ra_lay_lt h
    rw [if_pos rfl, ra_w_at h, if_pos hlen]
  · rw [if_neg hij]
    unfold ra_w
    by_cases hj : j < ra_nc
    · rw [List.getElem?_map, List.getElem?_map, List.getElem?_range hj]
      simp only [Option.map_some]
      rw [ra_ce_congr (h1 j (fun q => hij q.symm)) (h2 j (fun q => hij q.symm))]
    · rw [List.getElem?_eq_none (by rw [List.length_map, List.length_range]; exact Nat.le_of_not_lt hj), List.getElem?_eq_none (by rw [List.length_map, List.length_range]; exact Nat.le_of_not_lt hj)]
theorem ra_w_D {A0 : Nat → Prop} (hinj : ∀ i j, i < ra_nc → j < ra_nc → ad i = ad j → i = j) (hA : ∀ i, i < ra_nc → A0 (ad i)) : va_D A0 (ra_w ad cA σ) := by
  have key : ∀ (k : Nat) (q : Nat × va_E), (ra_w ad cA σ)[k]? = some q → k < ra_nc ∧ q.1 = ad k := by
    intro k q h
    unfold ra_w at h
    by_cases hk : k < ra_nc
    · rw [List.getElem?_map, List.getElem?_range hk] at h
      cases h
      exact ⟨hk, rfl⟩
    · rw [List.getElem?_eq_none (by rw [List.length_map, List.length_range]; exact Nat.le_of_not_lt hk)] at h
      cases h
  refine ⟨fun i j p q hp hq he => ?_, fun k q hk => ?_⟩
  · obtain ⟨a1, a2⟩ := key i p hp
    obtain ⟨b1, b2⟩ := key j q hq
    exact hinj i j a1 b1 (by rw [← a2, ← b2]; exact he)
  · obtain ⟨a1, a2⟩ := key k q hk
    rw [a2]
    exact hA k a1
theorem ra_ui_1 {i k : Nat} {x : Int32} (j : Nat) (h : j ≠ i) : (ra_ui σ i k x).1 j = σ.1 j := by unfold ra_ui; exact if_neg h
theorem ra_ui_s {i k : Nat} {x : Int32} : (ra_ui σ i k x).1 i = upd (σ.1 i) k x := by unfold ra_ui; exact if_pos rfl
theorem ra_ul_2 {i k : Nat} {x : Int64} (j : Nat) (h : j ≠ i) : (ra_ul σ i k x).2 j = σ.2 j := by unfold ra_ul; exact if_neg h
theorem ra_ul_s {i k : Nat} {x : Int64} : (ra_ul σ i k x).2 i = vp_updL (σ.2 i) k x := by unfold ra_ul; exact if_pos rfl
theorem ra_fs {i k : Nat} {fks : List (Bool ⊕ Nat)} {fk : Bool ⊕ Nat} (h : fks[k]? = some fk) : (fks.mapIdx (fun k fk => ra_cv ad (ra_fa σ i k fk)))[k]? = some (ra_cv ad (ra_fa σ i k fk)) := by
  rw [List.getElem?_mapIdx, h]; rfl
theorem ra_w_ui {i ci k : Nat} {fks : List (Bool ⊕ Nat)} {x : Int32} (h : ra_lay i = some (.inr (ci, fks))) (hk : fks[k]? = some (.inl false)) : ra_w ad cA (ra_ui σ i k x) = (ra_w ad cA σ).set i (ad i, .inr (ci, (fks.mapIdx (fun k fk => ra_cv ad (ra_fa σ i k fk))).set k (.int x))) := by
  rw [ra_w_set (σ := σ) (σ' := ra_ui σ i k x) h (fun j hj => ra_ui_1 j hj) (fun j hj => rfl)]
  congr 2
  show (Sum.inr (ci, _) : va_E) = Sum.inr (ci, _)
  congr 2
  apply List.ext_getElem?
  intro j
  rw [List.getElem?_mapIdx, List.getElem?_set, List.getElem?_mapIdx, List.length_mapIdx]
  by_cases hj : k = j
  · subst hj
    rw [if_pos rfl, if_pos (List.getElem?_eq_some_iff.mp hk).1, hk]
    show some (Value.int ((ra_ui σ i k x).1 i k)) = some (.int x)
    rw [ra_ui_s]
    unfold upd
    rw [if_pos rfl]
  · rw [if_neg hj]
    cases fks[j]? with
    | none => rfl
    | some fk =>
      cases fk with
      | inr z => rfl
      | inl b =>
        cases b with
        | true => rfl
        | false =>
          show some (Value.int ((ra_ui σ i k x).1 i j)) = some (.int (σ.1 i j))
          rw [ra_ui_s]
          unfold upd
          rw [if_neg (fun q => hj q.symm)]
theorem ra_w_ul {i ci k : Nat} {fks : List (Bool ⊕ Nat)} {x : Int64} (h : ra_lay i = some (.inr (ci, fks))) (hk : fks[k]? = some (.inl true)) : ra_w ad cA (ra_ul σ i k x) = (ra_w ad cA σ).set i (ad i, .inr (ci, (fks.mapIdx (fun k fk => ra_cv ad (ra_fa σ i k fk))).set k (.long x))) := by
  rw [ra_w_set (σ := σ) (σ' := ra_ul σ i k x) h (fun j hj => rfl) (fun j hj => ra_ul_2 j hj)]
  congr 2
  show (Sum.inr (ci, _) : va_E) = Sum.inr (ci, _)
  congr 2
  apply List.ext_getElem?
  intro j
  rw [List.getElem?_mapIdx, List.getElem?_set, List.getElem?_mapIdx, List.length_mapIdx]
  by_cases hj : k = j
  · subst hj
    rw [if_pos rfl, if_pos (List.getElem?_eq_some_iff.mp hk).1, hk]
    show some (Value.long ((ra_ul σ i k x).2 i k)) = some (.long x)
    rw [ra_ul_s]
    unfold vp_updL
    rw [if_pos rfl]
  · rw [if_neg hj]
    cases fks[j]? with
    | none => rfl
    | some fk =>
      cases fk with
      | inr z => rfl
      | inl b =>
        cases b with
        | false => rfl
        | true =>
          show some (Value.long ((ra_ul σ i k x).2 i j)) = some (.long (σ.2 i j))
          rw [ra_ul_s]
          unfold vp_updL
          rw [if_neg (fun q => hj q.symm)]
theorem ra_w_ai {i ty n k : Nat} {x : Int32} (h : ra_lay i = some (.inl (ty, n))) (hty : ty ≠ 2) : ra_w ad cA (ra_ui σ i k x) = (ra_w ad cA σ).set i (ad i, .inl (cA ty, n, .inl (upd (σ.1 i) k x))) := by
  rw [ra_w_set (σ := σ) (σ' := ra_ui σ i k x) h (fun j hj => ra_ui_1 j hj) (fun j hj => rfl)]
  unfold ra_ce
  rw [ra_ui_s]
  simp only [hty, if_false]
theorem ra_w_al {i n k : Nat} {x : Int64} (h : ra_lay i = some (.inl (2, n))) : ra_w ad cA (ra_ul σ i k x) = (ra_w ad cA σ).set i (ad i, .inl (cA 2, n, .inr (.inl (vp_updL (σ.2 i) k x)))) := by
  rw [ra_w_set (σ := σ) (σ' := ra_ul σ i k x) h (fun j hj => rfl) (fun j hj => ra_ul_2 j hj)]
  unfold ra_ce
  rw [ra_ul_s]
  simp only [if_true]
theorem ra_w_cp {i j n m : Nat} (h : ra_lay j = some (.inl (0, n))) : ra_w ad cA (ra_cp σ i j m) = (ra_w ad cA σ).set j (ad j, .inl (cA 0, n, .inl (va_cpy (σ.1 i) (σ.1 j) 0 0 m))) := by
  rw [ra_w_set (σ := σ) (σ' := ra_cp σ i j m) h (fun k hk => by unfold ra_cp; exact if_neg hk) (fun k hk => rfl)]
  have e : (ra_cp σ i j m).1 j = va_cpy (σ.1 i) (σ.1 j) 0 0 m := by unfold ra_cp; exact if_pos rfl
  unfold ra_ce
  rw [e]
  simp
theorem ra_ar_at {i ty n : Nat} (h : ra_lay i = some (.inl (ty, n))) (hty : ty ≠ 2) : (ra_w ad cA σ)[i]? = some (ad i, .inl (cA ty, n, .inl (σ.1 i))) := by
  rw [ra_w_at h]
  unfold ra_ce
  simp only [hty, if_false]
theorem ra_ar_at2 {i n : Nat} (h : ra_lay i = some (.inl (2, n))) : (ra_w ad cA σ)[i]? = some (ad i, .inl (cA 2, n, .inr (.inl (σ.2 i)))) := by
  rw [ra_w_at h]
  unfold ra_ce
  simp only [if_true]
end RAW
theorem ra_gd_some {α : Type} {b : Bool} {x : Option α} {r : α} (h : ra_gd b x = some r) : b = true ∧ x = some r := by
  cases b with
  | true => exact ⟨rfl, h⟩
  | false => cases h
theorem ra_gp_some {α : Type} {c : Prop} [Decidable c] {x : Option α} {r : α} (h : ra_gp c x = some r) : c ∧ x = some r := by
  unfold ra_gp at h
  split at h
  · rename_i hc; exact ⟨hc, h⟩
  · cases h
theorem ra_el_some {ty i : Nat} {j : Int32} {x : Option ra_R} {r : ra_R} (h : ra_el ty i j x = some r) : ∃ n, ra_lay i = some (.inl (ty, n)) ∧ vp_in j n ∧ x = some r := by
  unfold ra_el at h
  split at h
  · rename_i ty' m hl
    obtain ⟨h1, h2⟩ := ra_gd_some h
    have := Nat.eq_of_beq_eq_true h1
    subst this
    split at h2
    · rename_i hc; exact ⟨m, hl, vp_in_iff.mpr hc, h2⟩
    · cases h2
  · cases h
theorem ra_fd_some {i ci k : Nat} {x : (Bool ⊕ Nat) → Option ra_R} {r : ra_R} (h : ra_fd i ci k x = some r) : ∃ fks fk, ra_lay i = some (.inr (ci, fks)) ∧ fks[k]? = some fk ∧ x fk = some r := by
  unfold ra_fd at h
  split at h
  · rename_i ci' fks hl
    obtain ⟨h1, h2⟩ := ra_gd_some h
    have := Nat.eq_of_beq_eq_true h1
    subst this
    split at h2
    · rename_i fk hk; exact ⟨fks, fk, hl, hk, h2⟩
    · cases h2
  · cases h
theorem ra_tsw_some {α : Type} {k : Nat → Option α} {pc : Nat} {x : Int32} {d : Option α} {r : α} : ∀ (os : List Int) (v : Int), ra_tsw k pc x d v os = some r → (∃ (j : Nat) (o : Int), os[j]? = some o ∧ x = Int32.ofInt (v + j) ∧ k (((pc : Int) + o).toNat) = some r) ∨ ((∀ j : Nat, j < os.length → x ≠ Int32.ofInt (v + j)) ∧ d = some r)
  | [], v, h => Or.inr ⟨fun j hj => absurd hj (Nat.not_lt_zero _), h⟩
  | o :: os, v, h => by
    unfold ra_tsw at h
    split at h
    · rename_i hx
      exact Or.inl ⟨0, o, rfl, by rw [hx]; simp, h⟩
    · rename_i hx
      rcases ra_tsw_some os (v + 1) h with ⟨j, o', h1, h2, h3⟩ | ⟨h1, h2⟩
      · exact Or.inl ⟨j + 1, o', by simpa using h1, by rw [h2]; congr 1; push_cast; omega, h3⟩
      · refine Or.inr ⟨fun j hj => ?_, h2⟩
        cases j with
        | zero => simpa using hx
        | succ j =>
          have := h1 j (by simpa using hj)
          intro q
          exact this (by rw [q]; congr 1; push_cast; omega)
theorem ra_lsw_some {α : Type} {k : Nat → Option α} {pc : Nat} {x : Int32} {d : Int} {r : α} : ∀ (os : List (Int × Int)), os.all (fun q => decide (0 ≤ (pc : Int) + q.2) && decide (0 ≤ q.1 ∧ q.1 < 1000)) = true → 0 ≤ (pc : Int) + d → ra_lsw k pc x (k (((pc : Int) + d).toNat)) os = some r → ∃ o, Op.lookupswitch.offset os d x.toInt = o ∧ 0 ≤ (pc : Int) + o ∧ k (((pc : Int) + o).toNat) = some r
  | [], _, hd, h => ⟨d, rfl, hd, h⟩
  | o :: os, ha, hd, h => by
    rw [List.all_cons] at ha
    simp only [Bool.and_eq_true, decide_eq_true_eq] at ha
    unfold ra_lsw at h
    rw [show o = (o.1, o.2) from rfl, Op.lookupswitch.offset_cons]
    have ht : (Int32.ofInt o.1).toInt = o.1 := Int32.toInt_ofInt_of_le (by omega) (by omega)
    split at h
    · rename_i hx
      refine ⟨o.2, ?_, ha.1.1, h⟩
      rw [if_pos (by rw [hx]; exact ht.symm)]
    · rename_i hx
      obtain ⟨o', h1, h2, h3⟩ := ra_lsw_some os ha.2 hd h
      refine ⟨o', ?_, h2, h3⟩
      rw [if_neg (fun q => hx (Int32.toInt_inj.mp (by rw [ht]; exact q.symm)))]
      exact h1
