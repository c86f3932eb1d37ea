-- ===== the law's start (by gen96.py) =====
set_option maxRecDepth 100000 in
theorem rp_code12 : Cond.code yX12_init cX12_init 1 none ∈ ra_tb := ra_tb_of (show Cond.code yX12_init cX12_init 1 none ∈ tables_1_1 ++ (tables_1_2 ++ (tables_1_3 ++ (tables_1_4 ++ (tables_1_5 ++ (tables_1_6 ++ (tables_1_7 ++ tables_1_8)))))) from (List.mem_append_right _ (List.mem_append_right _ (List.mem_append_right _ (List.mem_append_right _ (List.mem_append_right _ (List.mem_append_left _ (List.mem_of_getElem? (i := 53) rfl)))))))) rfl
set_option maxHeartbeats 8000000 in
theorem whole_start {p : Program} {e : Env} {s : State} {m : MethodId} {below : List Frame} {meth : Method} {c : Code} (l : Launch) (hflags : l.flags = flags0) {b L : Nat} {xs : Nat → Int32} (hL : L ≤ 3072) (C0 : lw_At p s m meth c b L xs) : W p l e room_1 s m #[Value.ref b] below meth c s.heap [] 0 0 (lw_Z below #[Value.ref b] s) (entryFrame m ([Value.ref b] : List Value).toArray 7) := by
  obtain ⟨hx, hb, hr, hml, hown, hts0, hX, hbl, hlocks, hgv⟩ := id C0
  have hts : ∀ w ∈ ra_tb, w.before #[Value.ref b] s = true := fun w hw => hts0 w (List.mem_filter.mp hw).1
  have hT : ∀ w ∈ tables_1, w.before #[Value.ref b] s = true := fun w hw => hts0 w (List.mem_append_right _ hw)
  have hfl := flat_of_before _ hgv
  obtain ⟨D, cA, hK⟩ := rp_K hts
  have hN := rp_N hT
  obtain ⟨sk, sv, hZ⟩ := rp_Zof hT hfl
  obtain ⟨sa1, sa2, hX0⟩ := rp_Xof hT hfl
  have hle := lv_entry ([.ref b]) (n := 7) (Nat.le_of_ble_eq_true rfl)
  rw [lg_entry_eq]
  generalize (lg_sl ([.ref b]) ++ List.replicate (7 - (lg_sl ([.ref b])).length) Slot.unset).toArray = ls at hle ⊢
  have hl : lv_has ls 7 [(0, .ref b)] := hle
  have hF : rp_Fx p s m #[Value.ref b] c R_law code 7 D cA := ⟨hx, hb, hml, hown, hts, hK⟩
  have hI : rp_I D s.heap.size 0 s [] s.heap [] 0 := ⟨rfl, rfl, (fun k x h => by cases h), va_S.rf⟩
  refine rp_newo hF hI (ci := 11) (index := 8) (q := (RX11, TX11, 10)) rfl (ra_tb_of (List.mem_of_getElem? (i := 26) (by decide +kernel)) rfl) (ra_tb_of (List.mem_of_getElem? (i := 27) (by decide +kernel)) rfl) (ra_tb_of (List.mem_of_getElem? (i := 1) (by decide +kernel)) rfl) (ty := tyX11) tyX11_ok (fs := [.null, .null, .null, .null, .null, .null, .null, .null, .null, .null]) (by decide +kernel) (Nat.le_of_ble_eq_true rfl) (Nat.le_of_ble_eq_true rfl) (by decide +kernel) (fun H hI => ?_)
  refine lv_dup hx hb (by decide +kernel : decode code 3 = .ok (.dup, 1)) rfl ?_
  refine rp_call hF hN hZ (L := []) (index := 17) hI (r' := 0) rfl (rp_X11 l D cA s.heap.size sk sv) rp_X11_len (ra_tb_of (List.mem_of_getElem? (i := 30) (by decide +kernel)) rfl) (ra_tb_of (List.mem_of_getElem? (i := 1) (by decide +kernel)) rfl) (ra_tb_of (List.mem_of_getElem? (i := 28) (by decide +kernel)) rfl) (ra_tb_of (List.mem_of_getElem? (i := 29) (by decide +kernel)) rfl) rfl (by decide +kernel) ⟨rfl, rfl⟩ ⟨Nat.le_of_ble_eq_true rfl, Nat.le_of_ble_eq_true rfl⟩ hl.1 (Nat.le_of_ble_eq_true rfl) (by decide +kernel) ⟨Nat.le_of_ble_eq_true rfl, Nat.le_of_ble_eq_true rfl⟩ (fun L1 H locs hL1 hI => ?_)
  obtain ⟨σ, hσ, rfl⟩ := hL1
  have hI : rp_I D s.heap.size 0 s (rp_L11 cA s.heap.size σ) H locs 86 := hI
  refine lv_astore_n (lv' := [(1, .ref (s.heap.size + 0)), (0, .ref b)]) hx hb (by decide +kernel : decode code 7 = .ok (.astore_n 1, 1)) rfl hl (by decide) rfl (fun ls hl => ?_)
  refine rp_newo hF hI (ci := 12) (index := 18) (q := (RX12, TX12, 58)) rfl (ra_tb_of (List.mem_of_getElem? (i := 1249) (by decide +kernel)) rfl) (ra_tb_of (List.mem_of_getElem? (i := 1250) (by decide +kernel)) rfl) (ra_tb_of (List.mem_of_getElem? (i := 17) (by decide +kernel)) rfl) (ty := tyX12) tyX12_ok (fs := [.null, .int 0, .int 0, .null, .int 0, .int 0, .int 0, .int 0, .int 0, .int 0, .int 0, .int 0, .int 0, .int 0, .int 0, .int 0, .int 0, .int 0, .int 0, .int 0, .int 0, .int 0, .int 0, .int 0, .int 0, .null, .null, .null, .null, .null, .null, .null, .null, .null, .null, .null, .null, .null, .null, .int 0, .int 0, .int 0, .long 0, .int 0, .null, .null, .null, .int 0, .int 0, .null, .null, .null, .null, .null, .null, .null, .null, .null]) (by decide +kernel) (Nat.le_of_ble_eq_true rfl) (Nat.le_of_ble_eq_true rfl) (by decide +kernel) (fun H hI => ?_)
  have e11 : (rp_L11 cA s.heap.size σ).length = 86 := rfl
  rw [show s.heap.size + 0 + (rp_L11 cA s.heap.size σ).length = s.heap.size + 86 by rw [e11]]
  refine lv_dup hx hb (by decide +kernel : decode code 11 = .ok (.dup, 1)) rfl ?_
  refine rp_call hF hN hZ (L := rp_L11 cA s.heap.size σ) (index := 20) hI (r' := 86) (by rw [e11]) (rp_X12 l D cA s.heap.size sk sv) rp_X12_len rp_code12 (ra_tb_of (List.mem_of_getElem? (i := 17) (by decide +kernel)) rfl) (ra_tb_of (List.mem_of_getElem? (i := 1251) (by decide +kernel)) rfl) (ra_tb_of (List.mem_of_getElem? (i := 1252) (by decide +kernel)) rfl) rfl (by decide +kernel) ⟨rfl, rfl⟩ ⟨Nat.le_of_ble_eq_true rfl, Nat.le_of_ble_eq_true rfl⟩ hl.1 (Nat.le_of_ble_eq_true rfl) (by decide +kernel) ⟨Nat.le_of_ble_eq_true rfl, Nat.le_of_ble_eq_true rfl⟩ (fun L2 H locs hL2 hI => ?_)
  obtain ⟨υ, hυ, rfl⟩ := hL2
  refine lv_astore_n (lv' := [(2, .ref (s.heap.size + 86)), (1, .ref (s.heap.size + 0)), (0, .ref b)]) hx hb (by decide +kernel : decode code 15 = .ok (.astore_n 2, 1)) rfl hl (by decide) rfl (fun ls hl => ?_)
  refine lv_iconst (v := 1) hx hb (by decide +kernel : decode code 16 = .ok (.iconst 1, 1)) (by decide) ?_
  refine rp_newq hF hI (q := 2) (N := 1) (atype := .long) (a0 := (1, .inr (.inl (fun _ => 0)))) rp_wJ rfl (fun h => h) rfl (by decide) (by decide) (Nat.le_of_ble_eq_true rfl) (Nat.le_of_ble_eq_true rfl) (Nat.le_of_ble_eq_true rfl) (by decide +kernel) (fun H hI => ?_)
  rw [show s.heap.size + 0 + (rp_L11 cA s.heap.size σ ++ rp_ls (rp_ad s.heap.size 86 114) cA υ 86 29).length = s.heap.size + 115 by rw [List.length_append, e11, rp_ls_len]]
  refine lv_astore_n (lv' := [(3, .ref (s.heap.size + 115)), (2, .ref (s.heap.size + 86)), (1, .ref (s.heap.size + 0)), (0, .ref b)]) hx hb (by decide +kernel : decode code 19 = .ok (.astore_n 3, 1)) rfl hl (by decide) rfl (fun ls hl => ?_)
  refine lv_iconst (v := nI 0) hx hb (by decide +kernel : decode code 20 = .ok (.iconst 0, 1)) (by decide) ?_
  refine lv_istore (lv' := [(4, .int (nI 0)), (3, .ref (s.heap.size + 115)), (2, .ref (s.heap.size + 86)), (1, .ref (s.heap.size + 0)), (0, .ref b)]) hx hb (by decide +kernel : decode code 21 = .ok (.istore 4, 2)) hl (by decide) rfl (fun ls hl => ?_)
  obtain ⟨i1, i2, i3, i4⟩ := hI
  have hSt : rz_St s b D cA 0 (rp_adL s.heap.size b) (rp_s0 σ υ) H locs ls := by
    refine ⟨rp_s0_R hσ hυ, fun i j hi hj h => ?_, fun i hi => ?_, rfl, rp_toW (N0 := s.heap.size) (r := 0) (n := 116) (fun i sh h => ?_) (fun i _ h => rp_adL_in (by omega)) (rp_all i3), i4, none, none, hl.1, hl.2.1, fun i v hv hc => ?_⟩
    · have hi : i < 116 := hi
      have hj : j < 116 := hj
      rw [rp_adL_in (by omega), rp_adL_in (by omega)] at h
      omega
    · have hi : i < 116 := hi
      rw [rp_adL_in (by omega)]
      omega
    · refine ⟨Nat.zero_le i, ?_, h⟩
      rcases Nat.lt_or_ge i 116 with z | z
      · omega
      · unfold ra_lay at h
        rw [Nat.ble_eq_true_of_le z] at h
        cases h
    · match i, hv with
      | 0, hv => cases hv; exact lv_at hl 4 rfl
      | 1, hv => cases hv; exact lv_at hl 3 rfl
      | 2, hv => cases hv; exact lv_at hl 2 rfl
      | 3, hv => cases hv; exact lv_at hl 1 rfl
      | 4, hv => cases hv; exact lv_at hl 0 rfl
      | 5, hv => cases hv
      | 6, hv => cases hv
      | i + 7, hv => cases hv
  exact rz_loop hL C0 rz_ops hK hN (dc := 1) (ds := 6) (rz_By1 hL C0 hK hN) (rz_By4 (rp_off hflags) hL C0 hK hN hX0) 513 0 _ _ H locs ls _ _ hSt (by omega) (by omega) (Nat.le_of_ble_eq_true rfl) (Nat.le_of_ble_eq_true rfl)
