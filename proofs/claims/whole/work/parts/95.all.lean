-- ===== all cells together, the relation at the start (by gen95.py) =====
def rp_adL (N0 b : Nat) (i : Nat) : Nat := if i = 999 then b else N0 + i
theorem rp_adL_in {N0 b i : Nat} (h : i < 999) : rp_adL N0 b i = N0 + i := by unfold rp_adL; rw [if_neg (by omega)]
def rp_k0 (i : Nat) : Nat → Int32 := bif Nat.beq i 1 then (fun k => bif Nat.beq k 3 then -1 else 0) else (bif Nat.beq i 10 || Nat.beq i 29 then (fun k => bif Nat.beq k 3 then 15 else 0) else (bif Nat.beq i 56 then (fun k => bif Nat.beq k 1 then -1 else 0) else fun _ => 0))
def rp_s0 (σ υ : ra_S) : ra_S := (fun i => bif Nat.ble 86 i && Nat.ble i 114 then υ.1 i else (bif Nat.ble 2 i && Nat.ble i 4 then σ.1 i else rp_k0 i), fun i => bif Nat.ble 86 i && Nat.ble i 114 then υ.2 i else (bif Nat.ble 2 i && Nat.ble i 4 then σ.2 i else fun _ => 0))
theorem rp_s0_R {σ υ : ra_S} (h1 : rp_tp σ) (h2 : rp_md υ) : rz_R (rp_s0 σ υ) := by
  obtain ⟨t1, t2⟩ := h1
  obtain ⟨⟨a1, a2, a3⟩, ⟨b1, b2, b3, b4, b5, b6⟩, ⟨c1, c2, c3⟩, ⟨d1, d2, d3⟩, e1⟩ := h2
  refine ⟨0, 0, 0, 0, 0, 0, 0, 0, ⟨⟨rfl, b3, by omega⟩, ⟨rfl, b1, by omega⟩, ⟨rfl, b2, by omega⟩, ⟨rfl, b4, by omega⟩, b5.symm, b6.symm⟩, fun l hl => absurd hl (Nat.not_lt_zero l), fun p hp => absurd hp (Nat.not_lt_zero p), ⟨fun _ => 0, fun k hk => absurd hk (Nat.not_lt_zero k), fun n hn => ?_, ?_⟩, fun w hw => absurd hw (Nat.not_lt_zero w), fun p hp => absurd hp (Nat.not_lt_zero p),
    ⟨rfl, d1, by omega, rfl, by omega, fun _ _ => (0, 0, 0), fun p hp => absurd hp (Nat.not_lt_zero p), fun j hj => absurd hj (Nat.not_lt_zero j)⟩, ⟨rfl, d2, by omega, d3.symm, ?_, fun k hk => absurd hk (Nat.not_lt_zero k)⟩, ⟨t1, a1, by omega, fun i hi => absurd hi (Nat.not_lt_zero i), a2.symm, a3.symm, t2, e1⟩, ⟨c1, ⟨c2, rfl⟩, c3, fun p hp => rfl⟩⟩
  · have : n = 0 := by omega
    subst this
    rfl
  · show 0 ≤ 10000000
    omega
  · show rz_in (υ.1 86 48) (-1) 0
    rw [d3]
    decide
theorem rp_ce_ls {ad ad' : Nat → Nat} {cA : Nat → ClassId} {σ σ' : ra_S} {i : Nat} {sh : ra_H} (h1 : σ'.1 i = σ.1 i) (h2 : σ'.2 i = σ.2 i) (h3 : ∀ o : Nat × List (Bool ⊕ Nat), sh = .inr o → ∀ j, .inr j ∈ o.2 → ad' j = ad j) : ra_ce ad' cA σ' i sh = ra_ce ad cA σ i sh := by
  cases sh with
  | inl q => unfold ra_ce; rw [h1, h2]
  | inr o =>
    unfold ra_ce
    dsimp only
    congr 2
    apply List.ext_getElem?
    intro k
    rw [List.getElem?_mapIdx, List.getElem?_mapIdx]
    cases hk : o.2[k]? with
    | none => rfl
    | some fk =>
      cases fk with
      | inl b => cases b <;> simp only [ra_fa, h1, h2, Option.map_some] <;> rfl
      | inr j =>
        show some (Value.ref (ad' j)) = some (Value.ref (ad j))
        rw [h3 o rfl j (List.mem_of_getElem? hk)]
def rp_rf (a b : Nat) (sh : ra_H) : Bool := match sh with
  | .inl _ => true
  | .inr o => o.2.all (fun fk => match fk with
    | .inl _ => true
    | .inr j => Nat.ble a j && Nat.ble j b)
theorem rp_rf_ok {a b : Nat} {sh : ra_H} (h : rp_rf a b sh = true) : ∀ o : Nat × List (Bool ⊕ Nat), sh = .inr o → ∀ j, .inr j ∈ o.2 → a ≤ j ∧ j ≤ b := by
  intro o ho j hj
  subst ho
  have := List.all_eq_true.mp h _ hj
  have this : (Nat.ble a j && Nat.ble j b) = true := this
  rw [Bool.and_eq_true] at this
  exact ⟨Nat.le_of_ble_eq_true this.1, Nat.le_of_ble_eq_true this.2⟩
theorem rp_rf86 : (List.range 29).all (fun k => rp_rf 86 114 ((ra_lay (86 + k)).getD (.inl (0, 0)))) = true := by decide +kernel
theorem rp_rf2 : (List.range 3).all (fun k => rp_rf 2 4 ((ra_lay (2 + k)).getD (.inl (0, 0)))) = true := by decide +kernel
theorem rp_blk {D : va_G} {N0 a b n : Nat} {ad : Nat → Nat} {cA : Nat → ClassId} {σ σ' : ra_S} {H : Heap} (hrf : (List.range n).all (fun k => rp_rf a b ((ra_lay (a + k)).getD (.inl (0, 0)))) = true) (h1 : ∀ k, k < n → σ'.1 (a + k) = σ.1 (a + k) ∧ σ'.2 (a + k) = σ.2 (a + k)) (had : ∀ j, a ≤ j → j ≤ b → ad j = N0 + j) (h : rp_P D N0 a (rp_ls (rp_ad N0 a b) cA σ a n) H) {k : Nat} (hk : k < n) : va_at D vwCl (N0 + a + k, ra_ce ad cA σ' (a + k) ((ra_lay (a + k)).getD (.inl (0, 0)))) H := by
  have h2 := h k _ (rp_ls_at hk)
  rw [rp_ce_ls (ad := rp_ad N0 a b) (ad' := ad) (σ := σ) (σ' := σ') (h1 k hk).1 (h1 k hk).2 (fun o ho j hj => by
    obtain ⟨g1, g2⟩ := rp_rf_ok (List.all_eq_true.mp hrf k (List.mem_range.mpr hk)) o ho j hj
    rw [had j g1 g2, rp_ad_in ⟨g1, g2⟩])]
  exact h2
set_option maxHeartbeats 8000000 in
theorem rp_all {D : va_G} {cA : Nat → ClassId} {N0 b : Nat} {σ υ : ra_S} {H : Heap} (h : rp_P D N0 0 (rp_L11 cA N0 σ ++ rp_ls (rp_ad N0 86 114) cA υ 86 29 ++ [.inl (cA 2, 1, .inr (.inl (fun _ => 0)))]) H) : rp_P D N0 0 (rp_ls (rp_adL N0 b) cA (rp_s0 σ υ) 0 116) H := by
  have e11 : (rp_L11 cA N0 σ).length = 86 := rfl
  have hO : rp_P D N0 115 [.inl (cA 2, 1, .inr (.inl (fun _ => 0)))] H := h.right (by rw [List.length_append, e11, rp_ls_len])
  have hM : rp_P D N0 86 (rp_ls (rp_ad N0 86 114) cA υ 86 29) H := h.left.right (by rw [e11])
  have hS : rp_P D N0 0 (rp_L11 cA N0 σ) H := h.left.left
  have hT : rp_P D N0 1 (rp_L4 cA N0 σ ++ rp_L7 cA N0 10 ++ rp_L7 cA N0 29 ++ rp_L9 cA N0 48 ++ rp_L1 cA N0 56 ++ rp_L0 cA N0 62 ++ rp_L5 cA N0 72 ++ rp_L5 cA N0 77 ++ rp_L8 cA N0 82 ++ [.inl (cA 0, 240, .inl (fun _ => 0))]) H := rp_P.right (L := [.inr (11, [.ref (N0 + 1), .ref (N0 + 10), .ref (N0 + 29), .ref (N0 + 48), .ref (N0 + 56), .ref (N0 + 62), .ref (N0 + 72), .ref (N0 + 77), .ref (N0 + 82), .ref (N0 + 85)])]) rfl hS
  have h85 : rp_P D N0 85 ([.inl (cA 0, 240, .inl (fun _ => 0))]) H := rp_P.right (L := rp_L4 cA N0 σ ++ rp_L7 cA N0 10 ++ rp_L7 cA N0 29 ++ rp_L9 cA N0 48 ++ rp_L1 cA N0 56 ++ rp_L0 cA N0 62 ++ rp_L5 cA N0 72 ++ rp_L5 cA N0 77 ++ rp_L8 cA N0 82) rfl hT
  have hT : rp_P D N0 1 (rp_L4 cA N0 σ ++ rp_L7 cA N0 10 ++ rp_L7 cA N0 29 ++ rp_L9 cA N0 48 ++ rp_L1 cA N0 56 ++ rp_L0 cA N0 62 ++ rp_L5 cA N0 72 ++ rp_L5 cA N0 77 ++ rp_L8 cA N0 82) H := hT.left
  have h82 : rp_P D N0 82 (rp_L8 cA N0 82) H := rp_P.right (L := rp_L4 cA N0 σ ++ rp_L7 cA N0 10 ++ rp_L7 cA N0 29 ++ rp_L9 cA N0 48 ++ rp_L1 cA N0 56 ++ rp_L0 cA N0 62 ++ rp_L5 cA N0 72 ++ rp_L5 cA N0 77) rfl hT
  have hT : rp_P D N0 1 (rp_L4 cA N0 σ ++ rp_L7 cA N0 10 ++ rp_L7 cA N0 29 ++ rp_L9 cA N0 48 ++ rp_L1 cA N0 56 ++ rp_L0 cA N0 62 ++ rp_L5 cA N0 72 ++ rp_L5 cA N0 77) H := hT.left
  have h77 : rp_P D N0 77 (rp_L5 cA N0 77) H := rp_P.right (L := rp_L4 cA N0 σ ++ rp_L7 cA N0 10 ++ rp_L7 cA N0 29 ++ rp_L9 cA N0 48 ++ rp_L1 cA N0 56 ++ rp_L0 cA N0 62 ++ rp_L5 cA N0 72) rfl hT
  have hT : rp_P D N0 1 (rp_L4 cA N0 σ ++ rp_L7 cA N0 10 ++ rp_L7 cA N0 29 ++ rp_L9 cA N0 48 ++ rp_L1 cA N0 56 ++ rp_L0 cA N0 62 ++ rp_L5 cA N0 72) H := hT.left
  have h72 : rp_P D N0 72 (rp_L5 cA N0 72) H := rp_P.right (L := rp_L4 cA N0 σ ++ rp_L7 cA N0 10 ++ rp_L7 cA N0 29 ++ rp_L9 cA N0 48 ++ rp_L1 cA N0 56 ++ rp_L0 cA N0 62) rfl hT
  have hT : rp_P D N0 1 (rp_L4 cA N0 σ ++ rp_L7 cA N0 10 ++ rp_L7 cA N0 29 ++ rp_L9 cA N0 48 ++ rp_L1 cA N0 56 ++ rp_L0 cA N0 62) H := hT.left
  have h62 : rp_P D N0 62 (rp_L0 cA N0 62) H := rp_P.right (L := rp_L4 cA N0 σ ++ rp_L7 cA N0 10 ++ rp_L7 cA N0 29 ++ rp_L9 cA N0 48 ++ rp_L1 cA N0 56) rfl hT
  have hT : rp_P D N0 1 (rp_L4 cA N0 σ ++ rp_L7 cA N0 10 ++ rp_L7 cA N0 29 ++ rp_L9 cA N0 48 ++ rp_L1 cA N0 56) H := hT.left
  have h56 : rp_P D N0 56 (rp_L1 cA N0 56) H := rp_P.right (L := rp_L4 cA N0 σ ++ rp_L7 cA N0 10 ++ rp_L7 cA N0 29 ++ rp_L9 cA N0 48) rfl hT
  have hT : rp_P D N0 1 (rp_L4 cA N0 σ ++ rp_L7 cA N0 10 ++ rp_L7 cA N0 29 ++ rp_L9 cA N0 48) H := hT.left
  have h48 : rp_P D N0 48 (rp_L9 cA N0 48) H := rp_P.right (L := rp_L4 cA N0 σ ++ rp_L7 cA N0 10 ++ rp_L7 cA N0 29) rfl hT
  have hT : rp_P D N0 1 (rp_L4 cA N0 σ ++ rp_L7 cA N0 10 ++ rp_L7 cA N0 29) H := hT.left
  have h29 : rp_P D N0 29 (rp_L7 cA N0 29) H := rp_P.right (L := rp_L4 cA N0 σ ++ rp_L7 cA N0 10) rfl hT
  have hT : rp_P D N0 1 (rp_L4 cA N0 σ ++ rp_L7 cA N0 10) H := hT.left
  have h10 : rp_P D N0 10 (rp_L7 cA N0 10) H := rp_P.right (L := rp_L4 cA N0 σ) rfl hT
  have hT : rp_P D N0 1 (rp_L4 cA N0 σ) H := hT.left
  have h4 : rp_P D N0 1 (rp_L4 cA N0 σ) H := hT
  have h2 : rp_P D N0 2 (rp_ls (rp_ad N0 2 4) cA σ 2 3) H := (rp_P.right (r' := 2) (L := [.inr (4, [.ref (N0 + 2), .ref (N0 + 5), .int 0, .int (-1), .int 0, .int 0, .int 0, .int 0])]) rfl h4).left
  have h5 : rp_P D N0 5 (rp_L3 cA N0 5) H := rp_P.right (L := rp_ls (rp_ad N0 2 4) cA σ 2 3) (by rw [rp_ls_len]) (rp_P.right (r' := 2) (L := [.inr (4, [.ref (N0 + 2), .ref (N0 + 5), .int 0, .int (-1), .int 0, .int 0, .int 0, .int 0])]) rfl h4)
  have had : ∀ j, j < 999 → rp_adL N0 b j = N0 + j := fun j hj => rp_adL_in hj
  intro k x hx
  have hk : k < 116 := by
    have := (List.getElem?_eq_some_iff.mp hx).1
    rw [rp_ls_len] at this
    exact this
  rw [rp_ls_at hk] at hx
  injection hx with hx
  subst hx
  by_cases hm : 86 ≤ k ∧ k ≤ 114
  · have := rp_blk (ad := rp_adL N0 b) (σ' := rp_s0 σ υ) rp_rf86 (fun j hj => ⟨by unfold rp_s0; dsimp only; rw [rp_ble2 (by omega) (by omega)]; rfl, by unfold rp_s0; dsimp only; rw [rp_ble2 (by omega) (by omega)]; rfl⟩) (fun j h1 h2 => had j (by omega)) hM (k := k - 86) (by omega)
    rw [show 86 + (k - 86) = 0 + k by omega, show N0 + 86 + (k - 86) = N0 + 0 + k by omega] at this
    exact this
  · match k, hk, hm with
    | 0, _, _ =>
      show va_at D vwCl (N0 + 0 + 0, .inr (11, List.mapIdx (fun k fk => ra_cv (rp_adL N0 b) (ra_fa (rp_s0 σ υ) 0 k fk)) [.inr 1, .inr 10, .inr 29, .inr 48, .inr 56, .inr 62, .inr 72, .inr 77, .inr 82, .inr 85])) H
      refine rp_fv (q := (RX11, TX11, 10)) rfl (hS 0 _ rfl) (fun k hk => ?_)
      rw [rp_mi]
      match k, hk with
      | 0, _ => rfl
      | 1, _ => rfl
      | 2, _ => rfl
      | 3, _ => rfl
      | 4, _ => rfl
      | 5, _ => rfl
      | 6, _ => rfl
      | 7, _ => rfl
      | 8, _ => rfl
      | 9, _ => rfl
      | k + 10, hk => exact absurd hk (Nat.not_lt.mpr (Nat.le_add_left 10 k))
    | 1, _, _ =>
      show va_at D vwCl (N0 + 0 + 1, .inr (4, List.mapIdx (fun k fk => ra_cv (rp_adL N0 b) (ra_fa (rp_s0 σ υ) 1 k fk)) [.inr 2, .inr 5, .inl false, .inl false, .inl false, .inl false, .inl false, .inl false])) H
      refine rp_fv (q := (RX4, TX4, 8)) rfl (h4 0 _ rfl) (fun k hk => ?_)
      rw [rp_mi]
      match k, hk with
      | 0, _ => rfl
      | 1, _ => rfl
      | 2, _ => rfl
      | 3, _ => rfl
      | 4, _ => rfl
      | 5, _ => rfl
      | 6, _ => rfl
      | 7, _ => rfl
      | k + 8, hk => exact absurd hk (Nat.not_lt.mpr (Nat.le_add_left 8 k))
    | 2, _, _ => exact rp_blk (ad := rp_adL N0 b) (σ' := rp_s0 σ υ) rp_rf2 (fun j hj => by match j, hj with | 0, _ => exact ⟨rfl, rfl⟩ | 1, _ => exact ⟨rfl, rfl⟩ | 2, _ => exact ⟨rfl, rfl⟩ | j + 3, hj => omega) (fun j h1 h2 => had j (by omega)) h2 (k := 0) (by omega)
    | 3, _, _ => exact rp_blk (ad := rp_adL N0 b) (σ' := rp_s0 σ υ) rp_rf2 (fun j hj => by match j, hj with | 0, _ => exact ⟨rfl, rfl⟩ | 1, _ => exact ⟨rfl, rfl⟩ | 2, _ => exact ⟨rfl, rfl⟩ | j + 3, hj => omega) (fun j h1 h2 => had j (by omega)) h2 (k := 1) (by omega)
    | 4, _, _ => exact rp_blk (ad := rp_adL N0 b) (σ' := rp_s0 σ υ) rp_rf2 (fun j hj => by match j, hj with | 0, _ => exact ⟨rfl, rfl⟩ | 1, _ => exact ⟨rfl, rfl⟩ | 2, _ => exact ⟨rfl, rfl⟩ | j + 3, hj => omega) (fun j h1 h2 => had j (by omega)) h2 (k := 2) (by omega)
    | 5, _, _ =>
      show va_at D vwCl (N0 + 0 + 5, .inr (3, List.mapIdx (fun k fk => ra_cv (rp_adL N0 b) (ra_fa (rp_s0 σ υ) 5 k fk)) [.inl false, .inr 6, .inr 7, .inr 8, .inr 9])) H
      refine rp_fv (q := (RX3, TX3, 5)) rfl (h5 0 _ rfl) (fun k hk => ?_)
      rw [rp_mi]
      match k, hk with
      | 0, _ => rfl
      | 1, _ => rfl
      | 2, _ => rfl
      | 3, _ => rfl
      | 4, _ => rfl
      | k + 5, hk => exact absurd hk (Nat.not_lt.mpr (Nat.le_add_left 5 k))
    | 6, _, _ => exact h5 1 _ rfl
    | 7, _, _ => exact h5 2 _ rfl
    | 8, _, _ => exact h5 3 _ rfl
    | 9, _, _ => exact h5 4 _ rfl
    | 10, _, _ =>
      show va_at D vwCl (N0 + 0 + 10, .inr (7, List.mapIdx (fun k fk => ra_cv (rp_adL N0 b) (ra_fa (rp_s0 σ υ) 10 k fk)) [.inr 11, .inr 16, .inl false, .inl false, .inl false, .inl false, .inr 25, .inl false, .inr 26, .inr 27, .inr 28])) H
      refine rp_fv (q := (RX7, TX7, 11)) rfl (h10 0 _ rfl) (fun k hk => ?_)
      rw [rp_mi]
      match k, hk with
      | 0, _ => rfl
      | 1, _ => rfl
      | 2, _ => rfl
      | 3, _ => rfl
      | 4, _ => rfl
      | 5, _ => rfl
      | 6, _ => rfl
      | 7, _ => rfl
      | 8, _ => rfl
      | 9, _ => rfl
      | 10, _ => rfl
      | k + 11, hk => exact absurd hk (Nat.not_lt.mpr (Nat.le_add_left 11 k))
    | 11, _, _ =>
      show va_at D vwCl (N0 + 0 + 11, .inr (2, List.mapIdx (fun k fk => ra_cv (rp_adL N0 b) (ra_fa (rp_s0 σ υ) 11 k fk)) [.inl false, .inr 12, .inr 13, .inr 14, .inr 15])) H
      refine rp_fv (q := (RX2, TX2, 5)) rfl (h10 1 _ rfl) (fun k hk => ?_)
      rw [rp_mi]
      match k, hk with
      | 0, _ => rfl
      | 1, _ => rfl
      | 2, _ => rfl
      | 3, _ => rfl
      | 4, _ => rfl
      | k + 5, hk => exact absurd hk (Nat.not_lt.mpr (Nat.le_add_left 5 k))
    | 12, _, _ => exact h10 2 _ rfl
    | 13, _, _ => exact h10 3 _ rfl
    | 14, _, _ => exact h10 4 _ rfl
    | 15, _, _ => exact h10 5 _ rfl
    | 16, _, _ =>
      show va_at D vwCl (N0 + 0 + 16, .inr (6, List.mapIdx (fun k fk => ra_cv (rp_adL N0 b) (ra_fa (rp_s0 σ υ) 16 k fk)) [.inl false, .inr 17, .inr 18, .inr 19, .inr 20, .inr 21, .inr 22, .inr 23, .inr 24])) H
      refine rp_fv (q := (RX6, TX6, 9)) rfl (h10 6 _ rfl) (fun k hk => ?_)
      rw [rp_mi]
      match k, hk with
      | 0, _ => rfl
      | 1, _ => rfl
      | 2, _ => rfl
      | 3, _ => rfl
      | 4, _ => rfl
      | 5, _ => rfl
      | 6, _ => rfl
      | 7, _ => rfl
      | 8, _ => rfl
      | k + 9, hk => exact absurd hk (Nat.not_lt.mpr (Nat.le_add_left 9 k))
    | 17, _, _ => exact h10 7 _ rfl
    | 18, _, _ => exact h10 8 _ rfl
    | 19, _, _ => exact h10 9 _ rfl
    | 20, _, _ => exact h10 10 _ rfl
    | 21, _, _ => exact h10 11 _ rfl
    | 22, _, _ => exact h10 12 _ rfl
    | 23, _, _ => exact h10 13 _ rfl
    | 24, _, _ => exact h10 14 _ rfl
    | 25, _, _ => exact h10 15 _ rfl
    | 26, _, _ => exact h10 16 _ rfl
    | 27, _, _ => exact h10 17 _ rfl
    | 28, _, _ => exact h10 18 _ rfl
    | 29, _, _ =>
      show va_at D vwCl (N0 + 0 + 29, .inr (7, List.mapIdx (fun k fk => ra_cv (rp_adL N0 b) (ra_fa (rp_s0 σ υ) 29 k fk)) [.inr 30, .inr 35, .inl false, .inl false, .inl false, .inl false, .inr 44, .inl false, .inr 45, .inr 46, .inr 47])) H
      refine rp_fv (q := (RX7, TX7, 11)) rfl (h29 0 _ rfl) (fun k hk => ?_)
      rw [rp_mi]
      match k, hk with
      | 0, _ => rfl
      | 1, _ => rfl
      | 2, _ => rfl
      | 3, _ => rfl
      | 4, _ => rfl
      | 5, _ => rfl
      | 6, _ => rfl
      | 7, _ => rfl
      | 8, _ => rfl
      | 9, _ => rfl
      | 10, _ => rfl
      | k + 11, hk => exact absurd hk (Nat.not_lt.mpr (Nat.le_add_left 11 k))
    | 30, _, _ =>
      show va_at D vwCl (N0 + 0 + 30, .inr (2, List.mapIdx (fun k fk => ra_cv (rp_adL N0 b) (ra_fa (rp_s0 σ υ) 30 k fk)) [.inl false, .inr 31, .inr 32, .inr 33, .inr 34])) H
      refine rp_fv (q := (RX2, TX2, 5)) rfl (h29 1 _ rfl) (fun k hk => ?_)
      rw [rp_mi]
      match k, hk with
      | 0, _ => rfl
      | 1, _ => rfl
      | 2, _ => rfl
      | 3, _ => rfl
      | 4, _ => rfl
      | k + 5, hk => exact absurd hk (Nat.not_lt.mpr (Nat.le_add_left 5 k))
    | 31, _, _ => exact h29 2 _ rfl
    | 32, _, _ => exact h29 3 _ rfl
    | 33, _, _ => exact h29 4 _ rfl
    | 34, _, _ => exact h29 5 _ rfl
    | 35, _, _ =>
      show va_at D vwCl (N0 + 0 + 35, .inr (6, List.mapIdx (fun k fk => ra_cv (rp_adL N0 b) (ra_fa (rp_s0 σ υ) 35 k fk)) [.inl false, .inr 36, .inr 37, .inr 38, .inr 39, .inr 40, .inr 41, .inr 42, .inr 43])) H
      refine rp_fv (q := (RX6, TX6, 9)) rfl (h29 6 _ rfl) (fun k hk => ?_)
      rw [rp_mi]
      match k, hk with
      | 0, _ => rfl
      | 1, _ => rfl
      | 2, _ => rfl
      | 3, _ => rfl
      | 4, _ => rfl
      | 5, _ => rfl
      | 6, _ => rfl
      | 7, _ => rfl
      | 8, _ => rfl
      | k + 9, hk => exact absurd hk (Nat.not_lt.mpr (Nat.le_add_left 9 k))
    | 36, _, _ => exact h29 7 _ rfl
    | 37, _, _ => exact h29 8 _ rfl
    | 38, _, _ => exact h29 9 _ rfl
    | 39, _, _ => exact h29 10 _ rfl
    | 40, _, _ => exact h29 11 _ rfl
    | 41, _, _ => exact h29 12 _ rfl
    | 42, _, _ => exact h29 13 _ rfl
    | 43, _, _ => exact h29 14 _ rfl
    | 44, _, _ => exact h29 15 _ rfl
    | 45, _, _ => exact h29 16 _ rfl
    | 46, _, _ => exact h29 17 _ rfl
    | 47, _, _ => exact h29 18 _ rfl
    | 48, _, _ =>
      show va_at D vwCl (N0 + 0 + 48, .inr (9, List.mapIdx (fun k fk => ra_cv (rp_adL N0 b) (ra_fa (rp_s0 σ υ) 48 k fk)) [.inr 49, .inr 50, .inr 51, .inl false, .inl false, .inr 52, .inr 53, .inr 54, .inr 55])) H
      refine rp_fv (q := (RX9, TX9, 9)) rfl (h48 0 _ rfl) (fun k hk => ?_)
      rw [rp_mi]
      match k, hk with
      | 0, _ => rfl
      | 1, _ => rfl
      | 2, _ => rfl
      | 3, _ => rfl
      | 4, _ => rfl
      | 5, _ => rfl
      | 6, _ => rfl
      | 7, _ => rfl
      | 8, _ => rfl
      | k + 9, hk => exact absurd hk (Nat.not_lt.mpr (Nat.le_add_left 9 k))
    | 49, _, _ => exact h48 1 _ rfl
    | 50, _, _ => exact h48 2 _ rfl
    | 51, _, _ => exact h48 3 _ rfl
    | 52, _, _ => exact h48 4 _ rfl
    | 53, _, _ => exact h48 5 _ rfl
    | 54, _, _ => exact h48 6 _ rfl
    | 55, _, _ => exact h48 7 _ rfl
    | 56, _, _ =>
      show va_at D vwCl (N0 + 0 + 56, .inr (1, List.mapIdx (fun k fk => ra_cv (rp_adL N0 b) (ra_fa (rp_s0 σ υ) 56 k fk)) [.inl false, .inl false, .inr 57, .inr 58, .inr 59, .inr 60, .inr 61])) H
      refine rp_fv (q := (RX1, TX1, 7)) rfl (h56 0 _ rfl) (fun k hk => ?_)
      rw [rp_mi]
      match k, hk with
      | 0, _ => rfl
      | 1, _ => rfl
      | 2, _ => rfl
      | 3, _ => rfl
      | 4, _ => rfl
      | 5, _ => rfl
      | 6, _ => rfl
      | k + 7, hk => exact absurd hk (Nat.not_lt.mpr (Nat.le_add_left 7 k))
    | 57, _, _ => exact h56 1 _ rfl
    | 58, _, _ => exact h56 2 _ rfl
    | 59, _, _ => exact h56 3 _ rfl
    | 60, _, _ => exact h56 4 _ rfl
    | 61, _, _ => exact h56 5 _ rfl
    | 62, _, _ =>
      show va_at D vwCl (N0 + 0 + 62, .inr (0, List.mapIdx (fun k fk => ra_cv (rp_adL N0 b) (ra_fa (rp_s0 σ υ) 62 k fk)) [.inr 63, .inr 64, .inr 65, .inr 66, .inr 67, .inr 68, .inr 69, .inr 70, .inr 71, .inl false, .inl false, .inl false, .inl false, .inl false])) H
      refine rp_fv (q := (RX0, TX0, 14)) rfl (h62 0 _ rfl) (fun k hk => ?_)
      rw [rp_mi]
      match k, hk with
      | 0, _ => rfl
      | 1, _ => rfl
      | 2, _ => rfl
      | 3, _ => rfl
      | 4, _ => rfl
      | 5, _ => rfl
      | 6, _ => rfl
      | 7, _ => rfl
      | 8, _ => rfl
      | 9, _ => rfl
      | 10, _ => rfl
      | 11, _ => rfl
      | 12, _ => rfl
      | 13, _ => rfl
      | k + 14, hk => exact absurd hk (Nat.not_lt.mpr (Nat.le_add_left 14 k))
    | 63, _, _ => exact h62 1 _ rfl
    | 64, _, _ => exact h62 2 _ rfl
    | 65, _, _ => exact h62 3 _ rfl
    | 66, _, _ => exact h62 4 _ rfl
    | 67, _, _ => exact h62 5 _ rfl
    | 68, _, _ => exact h62 6 _ rfl
    | 69, _, _ => exact h62 7 _ rfl
    | 70, _, _ => exact h62 8 _ rfl
    | 71, _, _ => exact h62 9 _ rfl
    | 72, _, _ =>
      show va_at D vwCl (N0 + 0 + 72, .inr (5, List.mapIdx (fun k fk => ra_cv (rp_adL N0 b) (ra_fa (rp_s0 σ υ) 72 k fk)) [.inr 73, .inr 74, .inr 75, .inr 76, .inl true, .inl true])) H
      refine rp_fv (q := (RX5, TX5, 6)) rfl (h72 0 _ rfl) (fun k hk => ?_)
      rw [rp_mi]
      match k, hk with
      | 0, _ => rfl
      | 1, _ => rfl
      | 2, _ => rfl
      | 3, _ => rfl
      | 4, _ => rfl
      | 5, _ => rfl
      | k + 6, hk => exact absurd hk (Nat.not_lt.mpr (Nat.le_add_left 6 k))
    | 73, _, _ => exact h72 1 _ rfl
    | 74, _, _ => exact h72 2 _ rfl
    | 75, _, _ => exact h72 3 _ rfl
    | 76, _, _ => exact h72 4 _ rfl
    | 77, _, _ =>
      show va_at D vwCl (N0 + 0 + 77, .inr (5, List.mapIdx (fun k fk => ra_cv (rp_adL N0 b) (ra_fa (rp_s0 σ υ) 77 k fk)) [.inr 78, .inr 79, .inr 80, .inr 81, .inl true, .inl true])) H
      refine rp_fv (q := (RX5, TX5, 6)) rfl (h77 0 _ rfl) (fun k hk => ?_)
      rw [rp_mi]
      match k, hk with
      | 0, _ => rfl
      | 1, _ => rfl
      | 2, _ => rfl
      | 3, _ => rfl
      | 4, _ => rfl
      | 5, _ => rfl
      | k + 6, hk => exact absurd hk (Nat.not_lt.mpr (Nat.le_add_left 6 k))
    | 78, _, _ => exact h77 1 _ rfl
    | 79, _, _ => exact h77 2 _ rfl
    | 80, _, _ => exact h77 3 _ rfl
    | 81, _, _ => exact h77 4 _ rfl
    | 82, _, _ =>
      show va_at D vwCl (N0 + 0 + 82, .inr (8, List.mapIdx (fun k fk => ra_cv (rp_adL N0 b) (ra_fa (rp_s0 σ υ) 82 k fk)) [.inl false, .inr 83, .inr 84, .inl true])) H
      refine rp_fv (q := (RX8, TX8, 4)) rfl (h82 0 _ rfl) (fun k hk => ?_)
      rw [rp_mi]
      match k, hk with
      | 0, _ => rfl
      | 1, _ => rfl
      | 2, _ => rfl
      | 3, _ => rfl
      | k + 4, hk => exact absurd hk (Nat.not_lt.mpr (Nat.le_add_left 4 k))
    | 83, _, _ => exact h82 1 _ rfl
    | 84, _, _ => exact h82 2 _ rfl
    | 85, _, _ => exact h85 0 _ rfl
    | 115, _, _ => exact hO 0 _ rfl
    | 86, _, hm => exact absurd hm (by omega)
    | 87, _, hm => exact absurd hm (by omega)
    | 88, _, hm => exact absurd hm (by omega)
    | 89, _, hm => exact absurd hm (by omega)
    | 90, _, hm => exact absurd hm (by omega)
    | 91, _, hm => exact absurd hm (by omega)
    | 92, _, hm => exact absurd hm (by omega)
    | 93, _, hm => exact absurd hm (by omega)
    | 94, _, hm => exact absurd hm (by omega)
    | 95, _, hm => exact absurd hm (by omega)
    | 96, _, hm => exact absurd hm (by omega)
    | 97, _, hm => exact absurd hm (by omega)
    | 98, _, hm => exact absurd hm (by omega)
    | 99, _, hm => exact absurd hm (by omega)
    | 100, _, hm => exact absurd hm (by omega)
    | 101, _, hm => exact absurd hm (by omega)
    | 102, _, hm => exact absurd hm (by omega)
    | 103, _, hm => exact absurd hm (by omega)
    | 104, _, hm => exact absurd hm (by omega)
    | 105, _, hm => exact absurd hm (by omega)
    | 106, _, hm => exact absurd hm (by omega)
    | 107, _, hm => exact absurd hm (by omega)
    | 108, _, hm => exact absurd hm (by omega)
    | 109, _, hm => exact absurd hm (by omega)
    | 110, _, hm => exact absurd hm (by omega)
    | 111, _, hm => exact absurd hm (by omega)
    | 112, _, hm => exact absurd hm (by omega)
    | 113, _, hm => exact absurd hm (by omega)
    | 114, _, hm => exact absurd hm (by omega)
    | k + 116, hk, _ => omega
