-- ===== the law's case look =====
section RZKL
variable {p : Program} {l : Launch} {e : Env} {R : Room} {s : State} {m : MethodId} {args : Array Value} {below : List Frame} {meth : Method} {c : Code} {H : Heap} {locs : List Loc} {cells slots : Nat} {Q : State → Prop}
theorem rz_retK {D : va_G} {ad : Nat → Nat} {cA : Nat → ClassId} {σ1 : ra_S} {k : Int32} {pc : Nat} {ls : Array Slot} {st0 rest : List Value} {a : Array Value} {A0 : Nat → Prop} {H0 : Heap} (hr : va_Run p l e R s m args below meth c H locs cells slots 1 6 (F0 m pc ls st0) rest (va_Qi (S := Unit) (fun r _ => r = k) (fun _ t => va_P D vwCl (ra_w ra_lay ad cA σ1) t.heap) (ra_A ad) a) (ra_A ad)) (hS : va_S A0 H0 H locs) (hA : ∀ q, ra_A ad q → A0 q)
    (kk : ∀ (H1 : Heap) (locs1 : List Loc), va_P D vwCl (ra_w ra_lay ad cA σ1) H1 → va_S A0 H0 H1 locs1 → W p l e R s m args below meth c H1 locs1 (cells + 1) (slots + 6) Q (F0 m (pc + 3) ls (.int k :: rest))) : W p l e R s m args below meth c H locs cells slots Q (F0 m pc ls st0) := by
  intro T hT X
  obtain ⟨v', st₀, t, T', L, h0, X', hL, e1, e2, ⟨⟨r, u, hv, hk0, hP⟩, hz, hk⟩, st⟩ := hr T hT X
  have hv := Outcome.returned.inj hv
  subst hv
  subst hk0
  rw [h0] at hz hk
  obtain ⟨t2, a1, b1⟩ := kk T'.heap (locs ++ L) (by rw [e1]; exact hP)
    ⟨Nat.le_trans hS.1 (by rw [e1]; exact hz), fun q h1 h2 => by rw [e1, hk q (Nat.lt_of_lt_of_le h1 hS.1) (fun z => h2 (hA q z))]; exact hS.2.1 q h1 h2, fun q hq => by
      rcases List.mem_append.mp hq with h | h
      · exact hS.2.2 q h
      · exact hA _ (hL q h)⟩ T' rfl X'
  exact ⟨t2, st t2 a1, b1⟩
end RZKL
theorem rz_dl374 : decode ra_m253.2.2.1 374 = .ok (.invokestatic 39, 3) := by decide +kernel
section RZKM
variable {p : Program} {l : Launch} {e : Env} {s : State} {m : MethodId} {below : List Frame} {meth : Method} {c : Code}
set_option maxHeartbeats 4000000 in
theorem rz_By4 (hl : l.stackTraces = false) {b L : Nat} {xs : Nat → Int32} (hL : L ≤ 3072) (C0 : lw_At p s m meth c b L xs) {D : va_G} {cA : Nat → ClassId} (hK : va_K D vwCl (ra_ty cA) s) (hN : ∀ w ∈ ra_nest, va_Nw w s) {sa1 sa2 : Nat} (hX0 : rz_Xs sa1 sa2 (fun q : Nat => s.heap.size ≤ q) s s.heap) : rz_By p l e s m below meth c b L D cA 360 1 6 := by
  intro Q i ad σ H locs ls cells slots hi hSt hc hs kk
  obtain ⟨hR, hinj, hnew, h999, hP, hS, o5, o6, hok⟩ := hSt
  have C1 := C0
  obtain ⟨hx, hb, hr, hml, hown, hts, hX, hbl, hlocks, hgv⟩ := C1
  have hF := rz_Fx C0
  obtain ⟨-, -, -, -, hts', hM⟩ := id hF
  have g1 : 0 ≤ (nI (i + 1)).toInt ∧ (nI (i + 1)).toInt < (L : Int) := by rw [nI_toInt (by omega)]; omega
  have g2 : 0 ≤ (nI (i + 2)).toInt ∧ (nI (i + 2)).toInt < (L : Int) := by rw [nI_toInt (by omega)]; omega
  have n2 : nI i + (2 : Int32) = nI (i + 2) := nI_add i 2
  obtain ⟨k, v, hq, x, σ2, hM2, hk2, hx2, hR2⟩ := rz_look hR (xs (i + 1)) (xs (i + 2))
  have hAn : ∀ q, ra_A ad q → s.heap.size ≤ q := fun q hq => by obtain ⟨k, hk, rfl⟩ := hq; exact hnew k hk
  have hD1 : ra_D (ra_lay, some (L, xs), 374, ra_m253) 360 (rz_lo i o5 o6) [] σ = some (.inr (rz_lo i o5 o6, [.ref 115, .int (xs (i + 2)), .int (xs (i + 1)), .ref 0]), σ) := by
    unfold rz_lo
    rw [e_253K_360, nI_1, n2, if_pos g1, if_pos g2, nI_clamp (by omega), nI_clamp (by omega)]
  have hD2 : ra_D (ra_lay, some (L, xs), 1734, ra_m253) 377 (rz_lo i o5 o6) [.int k] (if k = 0 then ra_ul σ 115 0 v.toInt64 else σ) = some (.inr (rz_lo i (some (.int k)) (some (.int x)), []), σ2) := by
    unfold rz_lo
    rw [e_253K_377, nI_1, n2, if_pos g1, if_pos g2, nI_clamp (by omega), nI_clamp (by omega), hM2, ra_kI, e_139, ra_kI, hk2, if_pos rfl]
    by_cases z : k = 0
    · obtain ⟨y1, y2⟩ := hx2 z
      rw [if_pos z, y2, y1, rz_cmp0, if_pos rfl]
    · rw [if_neg z]
  obtain ⟨k1, hk1⟩ := ra_D_some.mp hD1
  obtain ⟨k3, hk3⟩ := ra_D_some.mp hD2
  refine ra_walk (lay := ra_lay) (κ := (ra_lay, some (L, xs), 374, ra_m253)) (A0 := fun q : Nat => s.heap.size ≤ q) (H0 := s.heap) hinj hAn rfl (fun _ _ h => h) hF hK hN ⟨Nat.le_of_ble_eq_true rfl, Nat.le_of_ble_eq_true rfl⟩ ⟨show cells ≤ 1142 by omega, show slots ≤ 13752 by omega⟩ (fun ys hy => ?_) _ σ (fun v hv => by cases hv) (fun lo' st' hv => ?_) k1 (fun k _ => ra_met (fun _ _ h => h) hinj k) 360 _ [] σ H locs ls hk1 hP hS hok
  · cases hy
    rw [h999]
    exact ⟨hX, hbl, Nat.not_le.mpr hbl⟩
  cases hv
  intro H1 locs1 ls1 hP1 hS1 hok1
  have hX1 : rz_Xs sa1 sa2 (ra_A ad) s H1 := (hX0.kept hS1.2.1).narrow hAn
  have hMet := rz_llM (l := l) hl (D := D) (cA := cA) (sa1 := sa1) (sa2 := sa2) hinj hq
  have hG : GoodIn ra_tb rz_wsK := fun w hw => by
    rcases List.mem_cons.mp hw with rfl | hw
    · exact ⟨rz_lk0, good_of_word (List.mem_filter.mp rz_lk0).2⟩
    · exact ⟨hw, good_of_word (List.mem_filter.mp hw).2⟩
  have hcw : vx_CSW room_1 s #[Value.ref b] RL 39 yL_look cL_look 5 (some .int) rz_hh rz_wsK rz_rmK 1 6 4 := ⟨⟨rfl, rfl, Nat.le_of_ble_eq_true rfl, Nat.le_of_ble_eq_true rfl, pay_in hts' hG, List.mem_cons_self⟩, hts' _ rz_lk0, hts' _ rz_lk6, ⟨by decide, by decide⟩, fun sig h => by
      have : (parseMethodDescriptor yL_look.desc).map (fun d => d.parameters.length) = some 4 := by decide +kernel
      rw [h] at this
      exact (Option.some.inj this).symm, hts' _ rz_lk4, hts' _ rz_lk5⟩
  refine rz_retK (D := D) (ad := ad) (cA := cA) (σ1 := (if k = 0 then ra_ul σ 115 0 v.toInt64 else σ)) (k := k) (rest := []) (a := (([.ref 0, .int (xs (i + 1)), .int (xs (i + 2)), .ref 115] : List Value).map (ra_cv ad)).toArray) (A0 := fun q : Nat => s.heap.size ≤ q) (H0 := s.heap) ?_ hS1 hAn (fun H2 locs2 hP2 hS2 => ?_)
  · exact vx_runSW (own := RL) (As := ([.ref 0, .int (xs (i + 1)), .int (xs (i + 2)), .ref 115] : List Value).map (ra_cv ad)) ⟨hx, hb, hml, hown, hts'⟩ hMet hcw
      ⟨rz_BX_blind, fun U hU hW => ⟨rfl, ⟨by rw [hU]; exact hP1, va_K.moved hW.alike hK, ra_nest_warm hW hN⟩, by rw [hU]; exact hX1.warm hW⟩⟩ rfl rfl hok1.1 rfl (lv_room (by decide)) rz_dl374 ⟨show cells + 1 ≤ 1142 by omega, show slots + 6 ≤ 13752 by omega⟩
  · refine ra_walk (lay := ra_lay) (κ := (ra_lay, some (L, xs), 1734, ra_m253)) (A0 := fun q : Nat => s.heap.size ≤ q) (H0 := s.heap) hinj hAn rfl (fun _ _ h => h) hF hK hN ⟨Nat.le_of_ble_eq_true rfl, Nat.le_of_ble_eq_true rfl⟩ ⟨show cells + 1 ≤ 1142 by omega, show slots + 6 ≤ 13752 by omega⟩ (fun ys hy => ?_) _ σ2 (fun v hv => by cases hv) (fun lo' st' hv => ?_) k3 (fun k _ => ra_met (fun _ _ h => h) hinj k) 377 _ [.int k] _ H2 locs2 ls1 hk3 hP2 hS2 hok1
    · cases hy
      rw [h999]
      exact ⟨hX, hbl, Nat.not_le.mpr hbl⟩
    · cases hv
      intro H3 locs3 ls3 hP3 hS3 hok3
      exact kk ad σ2 H3 locs3 ls3 ⟨hR2, hinj, hnew, h999, hP3, hS3, some (.int k), some (.int x), hok3⟩
end RZKM
