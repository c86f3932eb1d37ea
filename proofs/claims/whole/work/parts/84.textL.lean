-- ===== the law's case text =====
section RZTL
variable {p : Program} {l : Launch} {e : Env} {R : Room} {s : State} {m : MethodId} {args : Array Value} {below : List Frame} {meth : Method} {c : Code} {H : Heap} {locs : List Loc} {cells slots : Nat} {Q : State → Prop}
theorem rz_ret_W {D : va_G} {ad ad' : Nat → Nat} {cA : Nat → ClassId} {σ1 : ra_S} {v : Int32} {pc : Nat} {ls : Array Slot} {st0 rest : List Value} {a : Array Value} {A0 : Nat → Prop} {H0 : Heap} (hr : va_Run p l e R s m args below meth c H locs cells slots 0 0 (F0 m pc ls st0) rest (rz_QT D ad ad' cA v σ1 a) (ra_A ad)) (hS : va_S A0 H0 H locs) (hA : ∀ q, ra_A ad q → A0 q)
    (kk : ∀ (H1 : Heap) (locs1 : List Loc), va_P D vwCl (ra_w ra_lay ad' cA σ1) H1 → va_S A0 H0 H1 locs1 → W p l e R s m args below meth c H1 locs1 cells slots Q (F0 m (pc + 3) ls (.int v :: rest))) : W p l e R s m args below meth c H locs cells slots Q (F0 m pc ls st0) := by
  intro T hT X
  obtain ⟨v', st₀, t, T', L, h0, X', hL, e1, e2, ⟨⟨hv, hP⟩, hz, hk⟩, st⟩ := hr T hT X
  have hv := Outcome.returned.inj hv
  subst hv
  rw [h0] at hz hk
  obtain ⟨t2, a1, b1⟩ := kk T'.heap (locs ++ L) (by rw [e1]; exact hP)
    ⟨Nat.le_trans hS.1 (by rw [e1]; exact hz), fun q h1 h2 => by rw [e1, hk q (Nat.lt_of_lt_of_le h1 hS.1) (fun z => h2 (hA q z))]; exact hS.2.1 q h1 h2, fun q hq => by
      rcases List.mem_append.mp hq with h | h
      · exact hS.2.2 q h
      · exact hA _ (hL q h)⟩ T' rfl X'
  exact ⟨t2, st t2 a1, b1⟩
end RZTL
section RZTM
variable {p : Program} {l : Launch} {e : Env} {s : State} {m : MethodId} {below : List Frame} {meth : Method} {c : Code}
theorem rz_ap_o {ad : Nat → Nat} {i : Nat} (h : i < 10 ∨ 47 < i) : rz_ap ad i = ad i := by unfold rz_ap; rw [rz_wap_o h]
set_option maxHeartbeats 4000000 in
theorem rz_By1 {b L : Nat} {xs : Nat → Int32} (hL : L ≤ 3072) (C0 : lw_At p s m meth c b L xs) {D : va_G} {cA : Nat → ClassId} (hK : va_K D vwCl (ra_ty cA) s) (hN : ∀ w ∈ ra_nest, va_Nw w s) : rz_By p l e s m below meth c b L D cA 273 0 0 := by
  intro Q i ad σ H locs ls cells slots hi hSt hc hs kk
  obtain ⟨hR, hinj, hnew, h999, hP, hS, o5, o6, hok⟩ := hSt
  have C1 := C0
  obtain ⟨hx, hb, hr, hml, hown, hts, hX, hbl, hlocks, hgv⟩ := C1
  have hF := rz_Fx C0
  obtain ⟨-, -, -, -, hts', hM⟩ := id hF
  have g1 : 0 ≤ (nI (i + 1)).toInt ∧ (nI (i + 1)).toInt < (L : Int) := by rw [nI_toInt (by omega)]; omega
  obtain ⟨ad', v, σ1, σ2, hT, hM2, hR2, had⟩ : ∃ (ad' : Nat → Nat) (v : Int32) (σ1 σ2 : ra_S), rz_Tx (xs (i + 1)) v ad ad' σ σ1 ∧ ra_C 170 [.ref 86, .int (xs (i + 1))] σ1 = ra_I v σ2 ∧ rz_R σ2 ∧ (ad' = ad ∨ ad' = rz_ap ad) := by
    rcases rz_text hR (xs (i + 1)) with ⟨v, σ1, σ2, a1, a2, a3⟩ | ⟨x, τ, v, σ1, σ2, a1, a2, a3, a4⟩
    · exact ⟨ad, v, σ1, σ2, Or.inl ⟨rfl, a1⟩, a2, a3, Or.inl rfl⟩
    · exact ⟨rz_ap ad, v, σ1, σ2, Or.inr ⟨rfl, x, τ, a1, a2⟩, a3, a4, Or.inr rfl⟩
  have hinj' : ∀ i j, i < ra_nc → j < ra_nc → ad' i = ad' j → i = j := by
    rcases had with rfl | rfl
    · exact hinj
    · exact rz_ap_inj hinj
  have hnew' : ∀ i, i < ra_nc → s.heap.size ≤ ad' i := by
    rcases had with rfl | rfl
    · exact hnew
    · exact fun i hi => hnew _ (rz_wap_lt hi)
  have hfix : ∀ i, i < 10 ∨ 47 < i → ad' i = ad i := by
    rcases had with rfl | rfl
    · exact fun _ _ => rfl
    · exact fun i hi => rz_ap_o hi
  have hD1 : ra_D (ra_lay, some (L, xs), 280, ra_m253) 273 (rz_lo i o5 o6) [] σ = some (.inr (rz_lo i o5 o6, [.int (xs (i + 1)), .ref 0]), σ) := by
    unfold rz_lo
    rw [e_253T_273, nI_1, if_pos g1, nI_clamp (by omega)]
  have hD2 : ra_D (ra_lay, some (L, xs), 1734, ra_m253) 283 (rz_lo i none none) [.int v] σ1 = some (.inr (rz_lo i none none, []), σ2) := by
    unfold rz_lo
    rw [e_253T_283, nI_1, if_pos g1, nI_clamp (by omega), hM2, ra_kI, if_pos rfl]
  obtain ⟨k1, hk1⟩ := ra_D_some.mp hD1
  obtain ⟨k2, hk2⟩ := ra_D_some.mp hD2
  refine ra_walk (lay := ra_lay) (κ := (ra_lay, some (L, xs), 280, ra_m253)) (A0 := fun q : Nat => s.heap.size ≤ q) (H0 := s.heap) hinj (fun q hq => by obtain ⟨k, hk, rfl⟩ := hq; exact hnew k hk) rfl (fun _ _ h => h) hF hK hN ⟨Nat.le_of_ble_eq_true rfl, Nat.le_of_ble_eq_true rfl⟩ ⟨show cells ≤ 1142 by omega, show slots ≤ 13752 by omega⟩ (fun ys hy => ?_) _ σ (fun v hv => by cases hv) (fun lo' st' hv => ?_) k1 (fun k _ => ra_met (fun _ _ h => h) hinj k) 273 _ [] σ H locs ls hk1 hP hS hok
  · cases hy
    rw [h999]
    exact ⟨hX, hbl, Nat.not_le.mpr hbl⟩
  cases hv
  intro H1 locs1 ls1 hP1 hS1 hok1
  -- the call of the class
  have hE := hM.2.2.2.2 280 (.invokevirtual 26, 3, 78, 0, 0, 0) rfl
  unfold ra_eok at hE
  simp only [Bool.and_eq_true, decide_eq_true_eq] at hE
  obtain ⟨hd, -, he, hr1, hr2⟩ := hE
  have hr1 := Nat.le_of_ble_eq_true hr1
  have hr2 := Nat.le_of_ble_eq_true hr2
  have hco := ra_call_ok 78
  obtain ⟨hi1, hi2, q, hq1, hq2⟩ := hco.2.2.2.2 rfl
  obtain ⟨q0, w1, -⟩ := ra_w_cell (lay := ra_lay) (ad := ad) (cA := cA) (i := 0) (sh := ra_c0) (by decide) rfl σ
  have hrv : ∃ cell : Cell, H1[ad 0]? = some cell ∧ cell.vm.isStatics = false ∧ s.vm.findClass (ra_mt 78).2.1.cls = some cell.cls := by
    rw [← hq2]
    exact va_recv hK hP1 (ci := 11) hq1 w1
  have hRm : ra_m253.2.2.2.2.2.1.1 ≤ room_1.frames ∧ ra_m253.2.2.2.2.2.1.2 ≤ room_1.locals := ⟨Nat.le_of_ble_eq_true rfl, Nat.le_of_ble_eq_true rfl⟩
  have hMet := rz_textM (l := l) (D := D) (cA := cA) hinj hT
  refine rz_ret_W (D := D) (ad := ad) (ad' := ad') (cA := cA) (σ1 := σ1) (v := v) (rest := []) (a := (([.ref 0, .int (xs (i + 1))] : List Value).map (ra_cv ad)).toArray) (A0 := fun q : Nat => s.heap.size ≤ q) (H0 := s.heap) ?_ hS1 (fun q hq => by obtain ⟨k, hk, rfl⟩ := hq; exact hnew k hk) (fun H2 locs2 hP2 hS2 => ?_)
  · exact va_runV (own := ra_m253.2.1.cls) (C := (ra_mt 78).2.1.cls) ⟨hx, hb, hml, hown, hts'⟩ hMet ⟨callB_of _ hts' (ra_good hco) rfl rfl rfl (hts' _ hco.2.2.1) (hts' _ (ra_mlk hM.1 he)) ⟨hco.1.2.2.1.1, hco.1.2.2.1.2, hco.1.2.2.2.1⟩ ⟨Nat.le_trans hr1 hRm.1, Nat.le_trans hr2 hRm.2⟩, hts' _ hi1, hts' _ hi2⟩
      ⟨ra_blind, hrv, fun U hU hW => ⟨rfl, by rw [hU]; exact hP1, va_K.moved hW.alike hK, ra_nest_warm hW hN⟩⟩ rfl rfl hok1.1 rfl (lv_room (by decide)) hd ⟨show cells ≤ 1142 by omega, show slots ≤ 13752 by omega⟩
  · have hok2 : ra_ok ad' 7 (rz_lo i none none) ls1 := ⟨hok1.1, hok1.2.1, fun j w hw hcat => by
      match j, hw with
      | 0, hw => cases hw; show ls1[0]? = some (.val (.ref (ad' 999))); rw [hfix 999 (by omega)]; exact hok1.2.2 0 (.ref 999) rfl (fun q => by cases q)
      | 1, hw => cases hw; show ls1[1]? = some (.val (.ref (ad' 0))); rw [hfix 0 (by omega)]; exact hok1.2.2 1 (.ref 0) rfl (fun q => by cases q)
      | 2, hw => cases hw; show ls1[2]? = some (.val (.ref (ad' 86))); rw [hfix 86 (by omega)]; exact hok1.2.2 2 (.ref 86) rfl (fun q => by cases q)
      | 3, hw => cases hw; show ls1[3]? = some (.val (.ref (ad' 115))); rw [hfix 115 (by omega)]; exact hok1.2.2 3 (.ref 115) rfl (fun q => by cases q)
      | 4, hw => cases hw; exact hok1.2.2 4 (.int (nI i)) rfl (fun q => by cases q)
      | 5, hw => cases hw
      | 6, hw => cases hw
      | j + 7, hw => cases hw⟩
    have h999' : ad' 999 = b := by rw [hfix 999 (by omega)]; exact h999
    refine ra_walk (lay := ra_lay) (κ := (ra_lay, some (L, xs), 1734, ra_m253)) (A0 := fun q : Nat => s.heap.size ≤ q) (H0 := s.heap) hinj' (fun q hq => by obtain ⟨k, hk, rfl⟩ := hq; exact hnew' k hk) rfl (fun _ _ h => h) hF hK hN ⟨Nat.le_of_ble_eq_true rfl, Nat.le_of_ble_eq_true rfl⟩ ⟨show cells ≤ 1142 by omega, show slots ≤ 13752 by omega⟩ (fun ys hy => ?_) _ σ2 (fun v hv => by cases hv) (fun lo' st' hv => ?_) k2 (fun k _ => ra_met (fun _ _ h => h) hinj' k) 283 _ [.int v] σ1 H2 locs2 ls1 hk2 hP2 hS2 hok2
    · cases hy
      rw [h999']
      exact ⟨hX, hbl, Nat.not_le.mpr hbl⟩
    · cases hv
      intro H3 locs3 ls3 hP3 hS3 hok3
      exact kk ad' σ2 H3 locs3 ls3 ⟨hR2, hinj', hnew', h999', hP3, hS3, none, none, hok3⟩
end RZTM
