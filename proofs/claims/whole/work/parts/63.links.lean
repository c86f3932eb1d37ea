-- ===== text: rows of who sees and hears whom =====
/-- the class's row holds Lk -/
def rz_LkC (Lk : List (Nat × Nat × Nat × Nat)) (τ : ra_S) : Prop := τ.1 5 0 = nI Lk.length ∧ Lk.length ≤ 64 ∧ ∀ i x, Lk[i]? = some x → τ.1 6 i = nI x.1 ∧ τ.1 7 i = nI (13 + x.2.1) ∧ τ.1 8 i = nI x.2.2.1 ∧ τ.1 9 i = nI x.2.2.2 ∧ x.1 < 8 ∧ x.2.1 < 2 ∧ x.2.2.1 < 1073741824 ∧ x.2.2.2 < 801
theorem rz_sub_app (A B : List (Nat × Nat × Nat × Nat)) (p kd : Nat) : rz_sub (A ++ B) p kd = rz_sub A p kd ++ rz_sub B p kd := by
  unfold rz_sub
  rw [List.filter_append]
theorem rz_sub_one (x : Nat × Nat × Nat × Nat) (p kd : Nat) : rz_sub [x] p kd = if x.1 = p ∧ x.2.1 = kd then [x] else [] := by
  unfold rz_sub
  by_cases z : x.1 = p ∧ x.2.1 = kd
  · rw [if_pos z, List.filter_cons_of_pos (by simp only [Bool.and_eq_true, beq_iff_eq]; exact z), List.filter_nil]
  · rw [if_neg z, List.filter_cons_of_neg (by simp only [Bool.and_eq_true, beq_iff_eq]; exact z), List.filter_nil]
theorem rz_take1 {Lk : List (Nat × Nat × Nat × Nat)} {i : Nat} {x : Nat × Nat × Nat × Nat} (h : Lk[i]? = some x) : Lk.take (i + 1) = Lk.take i ++ [x] := by
  rw [List.take_succ, h]; rfl
theorem rz_lk_room {Lk : List (Nat × Nat × Nat × Nat)} {τ : ra_S} (h : rz_LkC Lk τ) {p kd : Nat} (hp : p < 8) (hk : kd < 2) : ra_C 21 [.ref 5, .int (nI p), .int (nI (13 + kd))] τ = ra_I (if (rz_sub Lk p kd).length < 4 ∧ Lk.length < 64 then 1 else 0) τ := by
  obtain ⟨h1, h2, h3⟩ := h
  have loop : ∀ d i, i + d = Lk.length → ra_D (ra_lay, none, 99999, ra_m21) 5 [some (.ref 5), some (.int (nI p)), some (.int (nI (13 + kd))), some (.int (nI (rz_sub (Lk.take i) p kd).length)), some (.int (nI i))] [] τ = ra_I (if (rz_sub Lk p kd).length < 4 ∧ Lk.length < 64 then 1 else 0) τ := by
    intro d
    induction d with
    | zero =>
      intro i hi
      have : i = Lk.length := by omega
      subst this
      have ls : (rz_sub Lk p kd).length ≤ Lk.length := List.length_filter_le _ _
      rw [e_21_5, h1, rz_inl (by omega) (by omega), List.take_length, e_21_52, h1, show (4 : Int32) = nI 4 from rfl, show (64 : Int32) = nI 64 from rfl, rz_ltt (by omega) (by omega), rz_ltt (by omega) (by omega)]
      by_cases z : (rz_sub Lk p kd).length < 4
      · rw [if_pos z]
        by_cases y : Lk.length < 64
        · rw [if_pos y, if_pos ⟨z, y⟩]
        · rw [if_neg y, if_neg (fun q => y q.2)]
      · rw [if_neg z, if_neg (fun q => z q.1)]
    | succ d ih =>
      intro i hi
      obtain ⟨x, hx⟩ : ∃ x, Lk[i]? = some x := ⟨Lk[i]'(by omega), List.getElem?_eq_getElem (by omega)⟩
      obtain ⟨x1, x2, x3, x4, x5, x6, x7, x8⟩ := h3 i x hx
      have i1 := ih (i + 1) (by omega)
      rw [rz_take1 hx, rz_sub_app, rz_sub_one] at i1
      rw [e_21_5, h1, rz_il (by omega) (by omega), if_pos (show nI i < (64 : Int32) from nI_lt (b := 64) (by omega) (by omega)), rz_ig (by omega) (by omega), nI_clamp (by omega), x1, x2, rz_ig (by omega) (by omega), rz_lit (by omega) (by omega), rz_lit (by omega) (by omega), nI_1, nI_1]
      by_cases z : x.1 = p
      · rw [if_pos z]
        by_cases y : x.2.1 = kd
        · rw [if_pos (show 13 + x.2.1 = 13 + kd by omega)]
          rw [if_pos ⟨z, y⟩, List.length_append] at i1
          exact i1
        · rw [if_neg (show ¬ 13 + x.2.1 = 13 + kd by omega)]
          rw [if_neg (fun q => y q.2), List.append_nil] at i1
          exact i1
      · rw [if_neg z]
        rw [if_neg (fun q => z q.1), List.append_nil] at i1
        exact i1
  rw [e_21]
  exact loop Lk.length 0 (by omega)
theorem rz_lk_has {Lk : List (Nat × Nat × Nat × Nat)} {τ : ra_S} (h : rz_LkC Lk τ) {p kd w : Nat} (hp : p < 8) (hk : kd < 2) (hw : w < 1073741824) : ∃ r : Int32, ra_C 22 [.ref 5, .int (nI p), .int (nI (13 + kd)), .int (nI w)] τ = ra_I r τ ∧ ((r = 1 ∧ ∃ x ∈ rz_sub Lk p kd, x.2.2.1 = w) ∨ (r = 0 ∧ ∀ x ∈ rz_sub Lk p kd, x.2.2.1 ≠ w)) := by
  obtain ⟨h1, h2, h3⟩ := h
  have loop : ∀ d i, i + d = Lk.length → (∀ x ∈ rz_sub (Lk.take i) p kd, x.2.2.1 ≠ w) → ∃ r : Int32, ra_D (ra_lay, none, 99999, ra_m22) 3 [some (.ref 5), some (.int (nI p)), some (.int (nI (13 + kd))), some (.int (nI w)), some (.int (nI i))] [] τ = ra_I r τ ∧ ((r = 1 ∧ ∃ x ∈ rz_sub Lk p kd, x.2.2.1 = w) ∨ (r = 0 ∧ ∀ x ∈ rz_sub Lk p kd, x.2.2.1 ≠ w)) := by
    intro d
    induction d with
    | zero =>
      intro i hi g
      have : i = Lk.length := by omega
      subst this
      rw [List.take_length] at g
      rw [e_22_3, h1, rz_inl (by omega) (by omega)]
      exact ⟨0, rfl, Or.inr ⟨rfl, g⟩⟩
    | succ d ih =>
      intro i hi g
      obtain ⟨x, hx⟩ : ∃ x, Lk[i]? = some x := ⟨Lk[i]'(by omega), List.getElem?_eq_getElem (by omega)⟩
      obtain ⟨x1, x2, x3, x4, x5, x6, x7, x8⟩ := h3 i x hx
      have go := ih (i + 1) (by omega)
      rw [rz_take1 hx, rz_sub_app, rz_sub_one] at go
      rw [e_22_3, h1, rz_il (by omega) (by omega), if_pos (show nI i < (64 : Int32) from nI_lt (b := 64) (by omega) (by omega)), rz_ig (by omega) (by omega), nI_clamp (by omega), x1, x2, x3, rz_ig (by omega) (by omega), rz_ig (by omega) (by omega), rz_lit (by omega) (by omega), rz_lit (by omega) (by omega), rz_lit (by omega) (by omega), nI_1]
      by_cases z : x.1 = p
      · rw [if_pos z]
        by_cases y : x.2.1 = kd
        · rw [if_pos (show 13 + x.2.1 = 13 + kd by omega)]
          by_cases u : x.2.2.1 = w
          · rw [if_pos u]
            refine ⟨1, rfl, Or.inl ⟨rfl, x, ?_, u⟩⟩
            unfold rz_sub
            rw [List.mem_filter]
            exact ⟨List.mem_of_getElem? hx, by simp only [Bool.and_eq_true, beq_iff_eq]; exact ⟨z, y⟩⟩
          · rw [if_neg u]
            rw [if_pos ⟨z, y⟩] at go
            exact go (fun x' hx' => by
              rcases List.mem_append.mp hx' with q | q
              · exact g x' q
              · rw [List.mem_singleton.mp q]; exact u)
        · rw [if_neg (show ¬ 13 + x.2.1 = 13 + kd by omega)]
          rw [if_neg (fun q => y q.2), List.append_nil] at go
          exact go g
      · rw [if_neg z]
        rw [if_neg (fun q => z q.1), List.append_nil] at go
        exact go g
  obtain ⟨r, e, q⟩ := loop Lk.length 0 (by omega) (fun x hx => by cases hx)
  exact ⟨r, by rw [e_22]; exact e, q⟩
theorem rz_m_fn {S : List (Nat × Nat × Nat × Nat)} {ψ : ra_S} {a w : Nat} (ha : a + 4 ≤ 64) (hS : S.length ≤ 4) (h : ∀ i x, S[i]? = some x → ψ.1 97 (a + i) = nI x.2.2.1 ∧ x.2.2.1 < 1073741824) (hw : w < 1073741824) : ∃ r : Int32, ra_C 158 [.ref 97, .int (nI a), .int (nI S.length), .int (nI w)] ψ = ra_I r ψ ∧ ((¬ r < 0 ∧ ∃ x ∈ S, x.2.2.1 = w) ∨ (r < 0 ∧ ∀ x ∈ S, x.2.2.1 ≠ w)) := by
  have loop : ∀ d i, i + d = S.length → (∀ x ∈ S.take i, x.2.2.1 ≠ w) → ∃ r : Int32, ra_D (ra_lay, none, 99999, ra_m158) 3 [some (.ref 97), some (.int (nI a)), some (.int (nI S.length)), some (.int (nI w)), some (.int (nI i))] [] ψ = ra_I r ψ ∧ ((¬ r < 0 ∧ ∃ x ∈ S, x.2.2.1 = w) ∨ (r < 0 ∧ ∀ x ∈ S, x.2.2.1 ≠ w)) := by
    intro d
    induction d with
    | zero =>
      intro i hi g
      have : i = S.length := by omega
      subst this
      rw [List.take_length] at g
      rw [e_158c_3, rz_inl (by omega) (by omega)]
      exact ⟨-1, rfl, Or.inr ⟨by decide, g⟩⟩
    | succ d ih =>
      intro i hi g
      obtain ⟨x, hx⟩ : ∃ x, S[i]? = some x := ⟨S[i]'(by omega), List.getElem?_eq_getElem (by omega)⟩
      obtain ⟨x1, x2⟩ := h i x hx
      rw [e_158c_3, rz_il (by omega) (by omega), nI_add, rz_ig (by omega) (by omega), nI_clamp (by omega), x1, rz_lit (by omega) (by omega), nI_1]
      by_cases u : x.2.2.1 = w
      · rw [if_pos u]
        exact ⟨nI i, rfl, Or.inl ⟨nI_pos (by omega), x, List.mem_of_getElem? hx, u⟩⟩
      · rw [if_neg u]
        refine ih (i + 1) (by omega) (fun x' hx' => ?_)
        rw [rz_take1 hx] at hx'
        rcases List.mem_append.mp hx' with q | q
        · exact g x' q
        · rw [List.mem_singleton.mp q]; exact u
  obtain ⟨r, e, q⟩ := loop S.length 0 (by omega) (fun x hx => by cases hx)
  exact ⟨r, by rw [e_158c]; exact e, q⟩
