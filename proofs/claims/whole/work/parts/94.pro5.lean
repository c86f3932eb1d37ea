-- ===== constructors that call others, the text of the words, the model's (by gen94.py) =====
def rp_ls (ad : Nat → Nat) (cA : Nat → ClassId) (σ : ra_S) (r n : Nat) : List va_E := (List.range n).map (fun k => ra_ce ad cA σ (r + k) ((ra_lay (r + k)).getD (.inl (0, 0))))
theorem rp_ls_len (ad : Nat → Nat) (cA : Nat → ClassId) (σ : ra_S) (r n : Nat) : (rp_ls ad cA σ r n).length = n := by unfold rp_ls; rw [List.length_map, List.length_range]
theorem rp_ls_at {ad : Nat → Nat} {cA : Nat → ClassId} {σ : ra_S} {r n k : Nat} (hk : k < n) : (rp_ls ad cA σ r n)[k]? = some (ra_ce ad cA σ (r + k) ((ra_lay (r + k)).getD (.inl (0, 0)))) := by
  unfold rp_ls
  rw [List.getElem?_map, List.getElem?_range hk]
  rfl
/-- from the list of new cells to the world of a store, and back -/
theorem rp_toW {lay : Nat → Option ra_H} {D : va_G} {ad : Nat → Nat} {cA : Nat → ClassId} {σ : ra_S} {N0 r n : Nat} {H : Heap} (hd : ∀ i sh, lay i = some sh → r ≤ i ∧ i < r + n ∧ ra_lay i = some sh) (ha : ∀ i, r ≤ i → i < r + n → ad i = N0 + i) (h : rp_P D N0 r (rp_ls ad cA σ r n) H) : va_P D vwCl (ra_w lay ad cA σ) H := by
  intro k q hk
  obtain ⟨i, hi, h1⟩ := List.mem_filterMap.mp (List.mem_of_getElem? hk)
  unfold ra_wg at h1
  cases hl : lay i with
  | none => rw [hl] at h1; cases h1
  | some sh =>
    rw [hl] at h1
    injection h1 with h1
    subst h1
    obtain ⟨d1, d2, d3⟩ := hd i sh hl
    have := h (i - r) _ (rp_ls_at (by omega))
    rw [show r + (i - r) = i by omega, d3, show N0 + r + (i - r) = ad i by rw [ha i d1 d2]; omega] at this
    exact this
theorem rp_ofW {lay : Nat → Option ra_H} {D : va_G} {ad : Nat → Nat} {cA : Nat → ClassId} {σ : ra_S} {N0 r n : Nat} {H : Heap} (hn : r + n ≤ ra_nc) (hd : ∀ i, r ≤ i → i < r + n → ∃ sh, lay i = some sh ∧ ra_lay i = some sh) (ha : ∀ i, r ≤ i → i < r + n → ad i = N0 + i) (h : va_P D vwCl (ra_w lay ad cA σ) H) : rp_P D N0 r (rp_ls ad cA σ r n) H := by
  intro k x hx
  have hk : k < n := by
    have := (List.getElem?_eq_some_iff.mp hx).1
    rw [rp_ls_len] at this
    exact this
  rw [rp_ls_at hk] at hx
  injection hx with hx
  subst hx
  obtain ⟨sh, h1, h2⟩ := hd (r + k) (by omega) (by omega)
  obtain ⟨q0, w1, -⟩ := ra_w_cell (lay := lay) (ad := ad) (cA := cA) (i := r + k) (by omega) h1 σ
  have := h q0 _ w1
  rw [h2, show N0 + r + k = ad (r + k) by rw [ha (r + k) (by omega) (by omega)]; omega]
  exact this
theorem rp_lay_all : ∀ i, i < 116 → ∃ sh, ra_lay i = some sh := by
  intro i hi
  unfold ra_lay
  have : Nat.ble 116 i = false := by
    cases hb : Nat.ble 116 i with
    | false => rfl
    | true => exact absurd (Nat.le_of_ble_eq_true hb) (by omega)
  rw [this]
  exact ⟨_, rfl⟩
theorem rp_ble2 {a b i : Nat} (h1 : a ≤ i) (h2 : i ≤ b) : (Nat.ble a i && Nat.ble i b) = true := by
  rw [Bool.and_eq_true]
  exact ⟨Nat.ble_eq_true_of_le h1, Nat.ble_eq_true_of_le h2⟩
theorem rp_lay2_dom : ∀ i sh, rp_lay2 i = some sh → 2 ≤ i ∧ i < 2 + 3 ∧ ra_lay i = some sh := by
  intro i sh e
  refine ⟨?_, ?_, rp_lay2_in i sh e⟩
  all_goals
    unfold rp_lay2 at e
    cases hb : (Nat.ble 2 i && Nat.ble i 4) with
    | false => rw [hb] at e; cases e
    | true =>
      rw [Bool.and_eq_true] at hb
      have := Nat.le_of_ble_eq_true hb.1
      have := Nat.le_of_ble_eq_true hb.2
      omega
theorem rp_lay86_dom : ∀ i sh, rp_lay86 i = some sh → 86 ≤ i ∧ i < 86 + 29 ∧ ra_lay i = some sh := by
  intro i sh e
  refine ⟨?_, ?_, rp_lay86_in i sh e⟩
  all_goals
    unfold rp_lay86 at e
    cases hb : (Nat.ble 86 i && Nat.ble i 114) with
    | false => rw [hb] at e; cases e
    | true =>
      rw [Bool.and_eq_true] at hb
      have := Nat.le_of_ble_eq_true hb.1
      have := Nat.le_of_ble_eq_true hb.2
      omega
theorem rp_lay2_all : ∀ i, 2 ≤ i → i < 2 + 3 → ∃ sh, rp_lay2 i = some sh ∧ ra_lay i = some sh := by
  intro i h1 h2
  obtain ⟨sh, h⟩ := rp_lay_all i (by omega)
  exact ⟨sh, by unfold rp_lay2; rw [rp_ble2 h1 (by omega)]; exact h, h⟩
theorem rp_lay86_all : ∀ i, 86 ≤ i → i < 86 + 29 → ∃ sh, rp_lay86 i = some sh ∧ ra_lay i = some sh := by
  intro i h1 h2
  obtain ⟨sh, h⟩ := rp_lay_all i (by omega)
  exact ⟨sh, by unfold rp_lay86; rw [rp_ble2 h1 (by omega)]; exact h, h⟩
/-- the addresses of the cells a to b; the others lie far off -/
def rp_ad (N0 a b : Nat) (i : Nat) : Nat := if a ≤ i ∧ i ≤ b then N0 + i else N0 + 1000 + i
theorem rp_ad_inj {N0 a b : Nat} (hb : b < 1000) : ∀ i j, i < ra_nc → j < ra_nc → rp_ad N0 a b i = rp_ad N0 a b j → i = j := by
  intro i j hi hj h
  have hi : i < 116 := hi
  have hj : j < 116 := hj
  unfold rp_ad at h
  split at h <;> split at h <;> omega
theorem rp_ad_A {N0 a b : Nat} (ha : a ≤ 1000) (q : Nat) (h : ra_A (rp_ad N0 a b) q) : N0 + a ≤ q := by
  obtain ⟨i, hi, rfl⟩ := h
  unfold rp_ad
  split <;> omega
theorem rp_ad_in {N0 a b i : Nat} (h : a ≤ i ∧ i ≤ b) : rp_ad N0 a b i = N0 + i := by unfold rp_ad; rw [if_pos h]
section RPC
variable {p : Program} {l : Launch} {e : Env} {R : Room} {s : State} {m : MethodId} {args : Array Value} {below : List Frame} {meth : Method} {c : Code} {H : Heap} {locs : List Loc} {cells slots : Nat} {Q : State → Prop}
variable {own : String} {cc : ByteArray} {nL : Nat} {D : va_G} {cA : Nat → ClassId} {N0 r sk sv pc : Nat} {L : List va_E} {ls : Array Slot} {rest : List Value}
theorem rp_get (hF : rp_Fx p s m args c own cc nL D cA) {ci : Nat} {fs : List Value} {T0 : List va_E} (hI : rp_I D N0 r s (.inr (ci, fs) :: T0) H locs cells) {w : vw_C} (hc : vwCl[ci]? = some w) (k : Nat) {index : Nat} {v : Value} (hk : k < w.2.2) (hlk : Cond.fieldLink own index (w.2.1 k).1 (w.2.1 k).2.1 (w.2.1 k).2.2.1 ∈ ra_tb) (hv : fs[k]? = some v) (hdg : decode cc pc = .ok (.getfield index, 3))
    (kk : W p l e R s m args below meth c H locs cells slots Q (F0 m (pc + 3) ls (v :: rest))) : W p l e R s m args below meth c H locs cells slots Q (F0 m pc ls (.ref (N0 + r) :: rest)) := by
  obtain ⟨hx, hb, -, hown, hts, hK⟩ := hF
  obtain ⟨i1, i2, i3, i4⟩ := hI
  obtain ⟨C, T, N⟩ := w
  have hP : va_P D vwCl [(N0 + r, .inr (ci, fs))] H := by
    intro j q hj
    cases j with
    | zero => cases hj; exact i3 0 _ rfl
    | succ j => cases hj
  exact va_get hx hb hts (ra_lays ci _ hc) hown hK hP 0 rfl hc k hk (hts _ hlk) (fun _ h => h) hv hdg kk
theorem rp_after {H1 : Heap} {locs1 : List Loc} {g : JFrame} (hI : rp_I D N0 r s L H locs cells) (hz : H.size ≤ H1.size) (hk : ∀ q : Nat, q < H.size → H1[q]? = H[q]?) (hS : va_S (fun q : Nat => N0 + r ≤ q) s.heap H1 locs1) (k : rp_I D N0 r s L H1 locs1 cells → W p l e R s m args below meth c H1 locs1 cells slots Q g) : W p l e R s m args below meth c H1 locs1 cells slots Q g := by
  refine rp_sz (fun hz2 => k ?_)
  obtain ⟨i1, i2, i3, i4⟩ := hI
  have hs : H1.size = H.size := by omega
  refine ⟨by omega, by omega, fun j x hj => (i3 j x hj).kept (hk _ ?_), hS⟩
  have := (List.getElem?_eq_some_iff.mp hj).1
  show N0 + r + j < H.size
  omega
end RPC
def rp_bf (k : Nat) : Nat → Int32 := fun j => if j < k then rp_byt.getD j 0 &&& 255 else 0
theorem rp_bf_succ (k : Nat) : upd (rp_bf k) k (rp_byt.getD k 0 &&& 255) = rp_bf (k + 1) := by
  funext j
  unfold upd rp_bf
  by_cases h : j = k
  · rw [if_pos h, if_pos (by omega), h]
  · rw [if_neg h]
    by_cases h2 : j < k
    · rw [if_pos h2, if_pos (by omega)]
    · rw [if_neg h2, if_neg (by omega)]
theorem rp_bf_0 : rp_bf 0 = fun _ => 0 := by
  funext j
  unfold rp_bf
  rw [if_neg (Nat.not_lt_zero j)]
def rp_tw (cA : Nat → ClassId) (N0 k : Nat) : List va_E := [.inr (10, [.ref (N0 + 2 + 1), .ref (N0 + 2 + 2), .int 0, .int (nI k), .int 0, .int 0, .int 0, .int 0]), .inl (cA 0, 800, .inl (rp_bf k)), .inl (cA 0, 11, .inl (fun _ => 0))]
def rp_s1 : ra_S := (fun i => bif Nat.beq i 3 then rp_bf 63 else (bif Nat.beq i 2 then (fun k => bif Nat.beq k 3 then nI 63 else 0) else fun _ => 0), fun _ _ => 0)
def rp_tp (σ : ra_S) : Prop := σ.1 2 2 = 0 ∧ ∀ i, i < 11 → σ.1 4 i = rz_words.getD i 0
theorem rp_s1_Tc : rp_Tc rp_t 63 (rp_wp.getD 0 0) rp_s1 := by
  refine ⟨rfl, by decide, rfl, by decide, fun i hi => ⟨?_, (rp_t_nI ⟨i, hi⟩).2⟩, trivial⟩
  show rp_bf 63 i = _
  unfold rp_bf
  rw [if_pos hi]
  exact (rp_t_nI ⟨i, hi⟩).1
theorem rp_X10_len {cA : Nat → ClassId} {N0 : Nat} : ∀ L : List va_E, (∃ σ : ra_S, rp_tp σ ∧ L = rp_ls (rp_ad N0 2 4) cA σ 2 3) → L.length = 3 := fun L h => by
  obtain ⟨σ, -, rfl⟩ := h
  rw [rp_ls_len]
set_option maxHeartbeats 8000000 in
theorem rp_X10 (l : Launch) (D : va_G) (cA : Nat → ClassId) (N0 sk sv : Nat) : rp_M l yX10_init cX10_init 2 { frames := 4, cells := 2, slots := 811, locals := 85 } D cA N0 2 sk sv (.inr (10, [.null, .null, .int 0, .int 0, .int 0, .int 0, .int 0, .int 0])) (fun L => ∃ σ : ra_S, rp_tp σ ∧ L = rp_ls (rp_ad N0 2 4) cA σ 2 3) 2 811 := by
  refine rp_start (by decide +kernel) (by decide) rfl ?_
  intro p e s m args below meth c ls hF hN hZ hin hr hlocks hI hsz hl
  refine rp_obj hF (idx := 3) (lv_at hl 0 rfl) hl.1 (ra_tb_of (List.mem_of_getElem? (i := 45) (by decide +kernel)) rfl) (by decide +kernel) (by decide +kernel) ⟨(Nat.le_of_ble_eq_true rfl), (Nat.le_of_ble_eq_true rfl)⟩ ?_
  refine rp_arrI hF hin (lv_at hl 0 rfl) hI 800 (n := 800) (by decide) (by decide) (Nat.le_of_ble_eq_true rfl) (Nat.le_of_ble_eq_true rfl) (Nat.le_of_ble_eq_true rfl) (w := (RX10, TX10, 8)) rfl 0 (index := 9) (pl := 3) (Nat.le_of_ble_eq_true rfl) (Nat.le_of_ble_eq_true rfl) (ra_tb_of (List.mem_of_getElem? (i := 99) (by decide +kernel)) rfl) rfl (by decide +kernel) (by decide +kernel) (Or.inr ⟨800, by decide +kernel, by decide, rfl⟩) (by decide +kernel) (by decide +kernel) (fun H locs hI => ?_)
  refine rp_arrI hF hin (lv_at hl 0 rfl) hI 11 (n := 11) (by decide) (by decide) (Nat.le_of_ble_eq_true rfl) (Nat.le_of_ble_eq_true rfl) (Nat.le_of_ble_eq_true rfl) (w := (RX10, TX10, 8)) rfl 1 (index := 15) (pl := 2) (Nat.le_of_ble_eq_true rfl) (Nat.le_of_ble_eq_true rfl) (ra_tb_of (List.mem_of_getElem? (i := 100) (by decide +kernel)) rfl) rfl (by decide +kernel) (by decide +kernel) (Or.inl ⟨11, by decide +kernel, by decide, rfl⟩) (by decide +kernel) (by decide +kernel) (fun H locs hI => ?_)
  have hx := hF.1
  have hb := hF.2.1
  have hml := hF.2.2.1
  have hown := hF.2.2.2.1
  have hts := hF.2.2.2.2.1
  have hK := hF.2.2.2.2.2
  refine lv_iconst (v := nI 0) hx hb (by decide +kernel : decode cX10_init 21 = .ok (.iconst 0, 1)) (by decide) ?_
  refine lv_istore_n (lv' := [(1, .int (nI 0)), (0, .ref (N0 + 2))]) hx hb (by decide +kernel : decode cX10_init 22 = .ok (.istore_n 1, 1)) rfl hl (by decide) rfl (fun ls hl => ?_)
  have loop : ∀ (d k : Nat) (H : Heap) (locs : List Loc) (ls : Array Slot), k + d = 63 → rp_I D N0 2 s (rp_tw cA N0 k) H locs 2 → lv_has ls 2 [(1, .int (nI k)), (0, .ref (N0 + 2))] →
      (∀ (H : Heap) (locs : List Loc) (ls : Array Slot), rp_I D N0 2 s (rp_tw cA N0 63) H locs 2 → lv_has ls 2 [(1, .int (nI 63)), (0, .ref (N0 + 2))] → W p l e { frames := 4, cells := 2, slots := 811, locals := 85 } s m args below meth c H locs 2 811 (MQ below (rp_Q D N0 2 (fun L => ∃ σ : ra_S, rp_tp σ ∧ L = rp_ls (rp_ad N0 2 4) cA σ 2 3)) args s 2 811 (fun q : Nat => N0 + 2 ≤ q)) (F0 m 64 ls [])) →
      W p l e { frames := 4, cells := 2, slots := 811, locals := 85 } s m args below meth c H locs 2 811 (MQ below (rp_Q D N0 2 (fun L => ∃ σ : ra_S, rp_tp σ ∧ L = rp_ls (rp_ad N0 2 4) cA σ 2 3)) args s 2 811 (fun q : Nat => N0 + 2 ≤ q)) (F0 m 23 ls []) := by
    intro d
    induction d with
    | zero =>
      intro k H locs ls hk hI hl kk
      have hk : k = 63 := by omega
      subst hk
      refine lv_iload_n hx hb (by decide +kernel : decode cX10_init 23 = .ok (.iload_n 1, 1)) rfl (lv_at hl 0 rfl) ?_
      refine va_ldcS hx hb hown hZ.1 (by decide +kernel) ?_
      refine rp_runV (index := 20) (A0 := fun q : Nat => N0 + 2 ≤ q) (as := []) (rest := [.int (nI 63)]) (n := 0) hx hb hml hown hts hZ hI.2.2.2 (fun q h => by omega) (rp_s_len l N0 sk sv) rfl (ra_tb_of (List.mem_of_getElem? (i := 50) (by decide +kernel)) rfl) (ra_tb_of (List.mem_of_getElem? (i := 4) (by decide +kernel)) rfl) (ra_tb_of (List.mem_of_getElem? (i := 47) (by decide +kernel)) rfl) (ra_tb_of (List.mem_of_getElem? (i := 48) (by decide +kernel)) rfl) (ra_tb_of (List.mem_of_getElem? (i := 49) (by decide +kernel)) rfl) (by decide +kernel) ⟨rfl, rfl⟩ ⟨Nat.le_of_ble_eq_true rfl, Nat.le_of_ble_eq_true rfl⟩ hl.1 rfl (Nat.le_of_ble_eq_true rfl) (by decide +kernel) ⟨Nat.le_refl _, Nat.le_refl _⟩ (fun H1 locs1 hz hk hS => ?_)
      refine rp_after hI hz hk hS (fun hI => ?_)
      refine lv_icmp_ge (tgt := 64) hx hb (by decide +kernel : decode cX10_init 29 = .ok (.if_icmp .ge 35, 3)) rfl (fun _ => kk _ _ _ hI hl) (fun z => absurd (by decide) z)
    | succ d ih =>
      intro k H locs ls hk hI hl kk
      refine lv_iload_n hx hb (by decide +kernel : decode cX10_init 23 = .ok (.iload_n 1, 1)) rfl (lv_at hl 0 rfl) ?_
      refine va_ldcS hx hb hown hZ.1 (by decide +kernel) ?_
      refine rp_runV (index := 20) (A0 := fun q : Nat => N0 + 2 ≤ q) (as := []) (rest := [.int (nI k)]) (n := 0) hx hb hml hown hts hZ hI.2.2.2 (fun q h => by omega) (rp_s_len l N0 sk sv) rfl (ra_tb_of (List.mem_of_getElem? (i := 50) (by decide +kernel)) rfl) (ra_tb_of (List.mem_of_getElem? (i := 4) (by decide +kernel)) rfl) (ra_tb_of (List.mem_of_getElem? (i := 47) (by decide +kernel)) rfl) (ra_tb_of (List.mem_of_getElem? (i := 48) (by decide +kernel)) rfl) (ra_tb_of (List.mem_of_getElem? (i := 49) (by decide +kernel)) rfl) (by decide +kernel) ⟨rfl, rfl⟩ ⟨Nat.le_of_ble_eq_true rfl, Nat.le_of_ble_eq_true rfl⟩ hl.1 rfl (Nat.le_of_ble_eq_true rfl) (by decide +kernel) ⟨Nat.le_refl _, Nat.le_refl _⟩ (fun H1 locs1 hz hk1 hS => ?_)
      refine rp_after hI hz hk1 hS (fun hI => ?_)
      refine lv_icmp_ge (tgt := 64) hx hb (by decide +kernel : decode cX10_init 29 = .ok (.if_icmp .ge 35, 3)) rfl (fun z => absurd z (Int32.not_le.mpr (nI_lt (a := k) (b := 63) (by omega) (by omega)))) (fun _ => ?_)
      refine lv_iload_n hx hb (by decide +kernel : decode cX10_init 32 = .ok (.iload_n 1, 1)) rfl (lv_at hl 0 rfl) ?_
      refine lv_sipush (v := 800) hx hb (by decide +kernel : decode cX10_init 33 = .ok (.sipush 800, 3)) (by decide) ?_
      refine lv_icmp_ge (tgt := 64) hx hb (by decide +kernel : decode cX10_init 36 = .ok (.if_icmp .ge 28, 3)) rfl (fun z => absurd z (Int32.not_le.mpr (nI_lt (a := k) (b := 800) (by omega) (by omega)))) (fun _ => ?_)
      refine lv_aload_n hx hb (by decide +kernel : decode cX10_init 39 = .ok (.aload_n 0, 1)) rfl (lv_at hl 1 rfl) ?_
      refine rp_get (index := 9) hF hI (w := (RX10, TX10, 8)) rfl 0 (by decide) (ra_tb_of (List.mem_of_getElem? (i := 99) (by decide +kernel)) rfl) rfl (by decide +kernel) ?_
      refine lv_iload_n hx hb (by decide +kernel : decode cX10_init 43 = .ok (.iload_n 1, 1)) rfl (lv_at hl 0 rfl) ?_
      refine va_ldcS hx hb hown hZ.1 (by decide +kernel) ?_
      refine lv_iload_n hx hb (by decide +kernel : decode cX10_init 46 = .ok (.iload_n 1, 1)) rfl (lv_at hl 0 rfl) ?_
      refine rp_runV (index := 26) (A0 := fun q : Nat => N0 + 2 ≤ q) (as := [.int (nI k)]) (rest := [.int (nI k), .ref (N0 + 2 + 1)]) (n := 1) hx hb hml hown hts hZ hI.2.2.2 (fun q h => by omega) (rp_s_char l N0 sk sv (k := k) (by omega)) rfl (ra_tb_of (List.mem_of_getElem? (i := 60) (by decide +kernel)) rfl) (ra_tb_of (List.mem_of_getElem? (i := 4) (by decide +kernel)) rfl) (ra_tb_of (List.mem_of_getElem? (i := 57) (by decide +kernel)) rfl) (ra_tb_of (List.mem_of_getElem? (i := 58) (by decide +kernel)) rfl) (ra_tb_of (List.mem_of_getElem? (i := 59) (by decide +kernel)) rfl) (by decide +kernel) ⟨rfl, rfl⟩ ⟨Nat.le_of_ble_eq_true rfl, Nat.le_of_ble_eq_true rfl⟩ hl.1 rfl (Nat.le_of_ble_eq_true rfl) (by decide +kernel) ⟨Nat.le_refl _, Nat.le_refl _⟩ (fun H2 locs2 hz hk2 hS => ?_)
      refine rp_after hI hz hk2 hS (fun hI => ?_)
      refine rp_iast hF hI 1 (n := 800) (f := rp_bf k) rfl (vp_in_nI (show k < 800 by omega) (by omega)) (by decide +kernel) (fun H3 locs3 hI => ?_)
      rw [nI_clamp (show k < 2 ^ 31 by omega), rp_bf_succ] at hI
      have hI : rp_I D N0 2 s (.inr (10, [.ref (N0 + 2 + 1), .ref (N0 + 2 + 2), .int 0, .int (nI k), .int 0, .int 0, .int 0, .int 0]) :: [.inl (cA 0, 800, .inl (rp_bf (k + 1))), .inl (cA 0, 11, .inl (fun _ => 0))]) H3 locs3 2 := hI
      refine lv_aload_n hx hb (by decide +kernel : decode cX10_init 51 = .ok (.aload_n 0, 1)) rfl (lv_at hl 1 rfl) ?_
      refine lv_iload_n hx hb (by decide +kernel : decode cX10_init 52 = .ok (.iload_n 1, 1)) rfl (lv_at hl 0 rfl) ?_
      refine lv_iconst (v := 1) hx hb (by decide +kernel : decode cX10_init 53 = .ok (.iconst 1, 1)) (by decide) ?_
      refine lv_iadd hx hb (by decide +kernel) ?_
      rw [nI_1]
      refine rp_put hF hin hI (q := (RX10, TX10, 8)) rfl (k := 3) (ty := .int) (index := 30) (by decide) (by decide) (ra_tb_of (List.mem_of_getElem? (i := 103) (by decide +kernel)) rfl) rfl (by decide +kernel) rfl rfl (by decide +kernel) (fun H4 locs4 hI => ?_)
      refine lv_iinc (lv' := [(1, .int (nI (k + 1))), (0, .ref (N0 + 2))]) (v := nI (k + 1)) (k := 0) hx hb (by decide +kernel : decode cX10_init 58 = .ok (.iinc 1 1, 3)) hl rfl (nI_1 k) (by decide) rfl (fun ls hl => ?_)
      refine lv_goto (tgt := 23) hx hb (by decide +kernel : decode cX10_init 61 = .ok (.goto (-38), 3)) rfl ?_
      exact ih (k + 1) H4 locs4 ls (by omega) hI hl kk
  refine loop 63 0 _ _ ls (by omega) (by unfold rp_tw; rw [rp_bf_0]; exact hI) hl (fun H locs ls hI hl => ?_)
  obtain ⟨i1, i2, i3, i4⟩ := hI
  obtain ⟨υ, e1, u1, u2⟩ := rp_words 11 0 rp_s1 (by omega) rp_s1_Tc (fun i hi => absurd hi (Nat.not_lt_zero i))
  have hD : ra_D (rp_lay2, none, 99999, rp_mT) 64 [some (.ref 2), none] [] rp_s1 = some (.inl none, υ) := by rw [p_T_64]; exact e1
  obtain ⟨n, hn⟩ := ra_D_some.mp hD
  have had : ∀ i, 2 ≤ i → i < 2 + 3 → rp_ad N0 2 4 i = N0 + i := fun i h1 h2 => rp_ad_in ⟨h1, by omega⟩
  have hP : va_P D vwCl (ra_w rp_lay2 (rp_ad N0 2 4) cA rp_s1) H := rp_toW rp_lay2_dom had (show rp_P D N0 2 (rp_ls (rp_ad N0 2 4) cA rp_s1 2 3) H from i3)
  have hok : ra_ok (rp_ad N0 2 4) 2 [some (.ref 2), none] ls := ⟨hl.1, hl.2.1, fun i v hv _ => by
    match i, hv with
    | 0, hv => cases hv; show ls[0]? = some (.val (.ref (rp_ad N0 2 4 2))); rw [had 2 (by omega) (by omega)]; exact lv_at hl 1 rfl
    | 1, hv => cases hv
    | i + 2, hv => cases hv⟩
  refine ra_walk (lay := rp_lay2) (κ := (rp_lay2, none, 99999, rp_mT)) (A0 := fun q : Nat => N0 + 2 ≤ q) (H0 := H) (rp_ad_inj (by decide)) (rp_ad_A (by decide)) rfl rp_lay2_in ⟨hx, hb, hml, hown, hts, rp_mT_ok⟩ hK hN ⟨Nat.le_of_ble_eq_true rfl, Nat.le_of_ble_eq_true rfl⟩ ⟨Nat.le_refl _, Nat.le_refl _⟩ (fun xs h => by cases h) (.inl none) υ ?_ (fun lo' st' h => by cases h) n (fun k _ => ra_met rp_lay2_in (rp_ad_inj (by decide)) k) 64 [some (.ref 2), none] [] rp_s1 H locs ls hn hP ⟨Nat.le_refl _, fun _ _ _ => rfl, i4.2.2⟩ hok
  intro v hv i H' locs' pc' ls' hP' hS' hd hri
  cases hv
  obtain ⟨rfl, -⟩ := hri
  refine rp_sz (fun hz => ?_)
  have hz1 := hS'.1
  refine rp_ret hF hr hlocks (L := rp_ls (rp_ad N0 2 4) cA υ 2 3) ⟨?_, ?_, rp_ofW (by decide) rp_lay2_all had hP', ⟨Nat.le_trans i4.1 hz1, fun q h1 h2 => (hS'.2.1 q (Nat.lt_of_lt_of_le h1 i4.1) h2).trans (i4.2.1 q h1 h2), hS'.2.2⟩⟩ ⟨υ, ⟨u1, u2⟩, rfl⟩ hd
  · rw [rp_ls_len]
    have : H.size = N0 + 2 + 3 := i1
    omega
  · omega
def rp_L4 (cA : Nat → ClassId) (N0 : Nat) (σ : ra_S) : List va_E := .inr (4, [.ref (N0 + 2), .ref (N0 + 5), .int 0, .int (-1), .int 0, .int 0, .int 0, .int 0]) :: (rp_ls (rp_ad N0 2 4) cA σ 2 3 ++ rp_L3 cA N0 5)
theorem rp_X4_len {cA : Nat → ClassId} {N0 : Nat} : ∀ L : List va_E, (∃ σ : ra_S, rp_tp σ ∧ L = rp_L4 cA N0 σ) → L.length = 9 := fun L h => by
  obtain ⟨σ, -, rfl⟩ := h
  rfl
set_option maxHeartbeats 8000000 in
theorem rp_X4 (l : Launch) (D : va_G) (cA : Nat → ClassId) (N0 sk sv : Nat) : rp_M l yX4_init cX4_init 1 { frames := 5, cells := 8, slots := 1080, locals := 106 } D cA N0 1 sk sv (.inr (4, [.null, .null, .int 0, .int 0, .int 0, .int 0, .int 0, .int 0])) (fun L => ∃ σ : ra_S, rp_tp σ ∧ L = rp_L4 cA N0 σ) 8 1080 := by
  refine rp_start (by decide +kernel) (Nat.le_refl _) rfl ?_
  intro p e s m args below meth c ls hF hN hZ hin hr hlocks hI hsz hl
  refine rp_obj hF (idx := 3) (lv_at hl 0 rfl) hl.1 (ra_tb_of (List.mem_of_getElem? (i := 39) (by decide +kernel)) rfl) (by decide +kernel) (by decide +kernel) ⟨(Nat.le_of_ble_eq_true rfl), (Nat.le_of_ble_eq_true rfl)⟩ ?_
  refine rp_sub hF hin hN hZ (lv_at hl 0 rfl) hl.1 hI (i1 := 9) (i2 := 11) (cj := 10) (v := (RX10, TX10, 8)) rfl (ra_tb_of (List.mem_of_getElem? (i := 40) (by decide +kernel)) rfl) (ra_tb_of (List.mem_of_getElem? (i := 41) (by decide +kernel)) rfl) (ra_tb_of (List.mem_of_getElem? (i := 3) (by decide +kernel)) rfl) (ty := tyX10) tyX10_ok (gs := [.null, .null, .int 0, .int 0, .int 0, .int 0, .int 0, .int 0]) (by decide +kernel) (Nat.le_of_ble_eq_true rfl) (Nat.le_of_ble_eq_true rfl) (rp_X10 l D cA N0 sk sv) rp_X10_len (ra_tb_of (List.mem_of_getElem? (i := 44) (by decide +kernel)) rfl) (ra_tb_of (List.mem_of_getElem? (i := 42) (by decide +kernel)) rfl) (ra_tb_of (List.mem_of_getElem? (i := 43) (by decide +kernel)) rfl) rfl (by decide +kernel) ⟨rfl, rfl⟩ ⟨(Nat.le_of_ble_eq_true rfl), (Nat.le_of_ble_eq_true rfl)⟩ ⟨(Nat.le_of_ble_eq_true rfl), (Nat.le_of_ble_eq_true rfl)⟩ (w := (RX4, TX4, 8)) rfl 0 (index := 12) (ty2 := .object "StickStrings$Tape") (Nat.le_of_ble_eq_true rfl) (Nat.le_of_ble_eq_true rfl) (ra_tb_of (List.mem_of_getElem? (i := 157) (by decide +kernel)) rfl) rfl (by decide +kernel) (fun z => ⟨rfl, rfl⟩) (by decide +kernel) (by decide +kernel) (by decide +kernel) (by decide +kernel) (by decide +kernel) (fun L4 H locs hL4 hI => ?_)
  obtain ⟨σ, hσ, rfl⟩ := hL4
  refine rp_sub hF hin hN hZ (lv_at hl 0 rfl) hl.1 hI (i1 := 18) (i2 := 20) (cj := 3) (v := (RX3, TX3, 5)) rfl (ra_tb_of (List.mem_of_getElem? (i := 130) (by decide +kernel)) rfl) (ra_tb_of (List.mem_of_getElem? (i := 131) (by decide +kernel)) rfl) (ra_tb_of (List.mem_of_getElem? (i := 8) (by decide +kernel)) rfl) (ty := tyX3) tyX3_ok (gs := [.int 0, .null, .null, .null, .null]) (by decide +kernel) (Nat.le_of_ble_eq_true rfl) (Nat.le_of_ble_eq_true rfl) (rp_X3 l D cA N0 _ sk sv) rp_X3_len (ra_tb_of (List.mem_of_getElem? (i := 134) (by decide +kernel)) rfl) (ra_tb_of (List.mem_of_getElem? (i := 132) (by decide +kernel)) rfl) (ra_tb_of (List.mem_of_getElem? (i := 133) (by decide +kernel)) rfl) rfl (by decide +kernel) ⟨rfl, rfl⟩ ⟨(Nat.le_of_ble_eq_true rfl), (Nat.le_of_ble_eq_true rfl)⟩ ⟨(Nat.le_of_ble_eq_true rfl), (Nat.le_of_ble_eq_true rfl)⟩ (w := (RX4, TX4, 8)) rfl 1 (index := 21) (ty2 := .object "StickStrings$Links") (Nat.le_of_ble_eq_true rfl) (Nat.le_of_ble_eq_true rfl) (ra_tb_of (List.mem_of_getElem? (i := 159) (by decide +kernel)) rfl) rfl (by decide +kernel) (fun z => ⟨rfl, rfl⟩) (by decide +kernel) (by decide +kernel) (by decide +kernel) (by decide +kernel) (by decide +kernel) (fun L15 H locs hL15 hI => ?_)
  obtain rfl := hL15
  refine rp_int hF hin (lv_at hl 0 rfl) hI (n := (-1)) (w := (RX4, TX4, 8)) rfl 3 (index := 25) (pl := 1) (ty := .int) (Nat.le_of_ble_eq_true rfl) (Nat.le_of_ble_eq_true rfl) (ra_tb_of (List.mem_of_getElem? (i := 162) (by decide +kernel)) rfl) rfl (by decide +kernel) ⟨rfl, rfl⟩ (by decide +kernel) (Or.inl ⟨(-1), by decide +kernel, by decide, rfl⟩) (by decide +kernel) (fun H locs hI => ?_)
  exact rp_ret hF hr hlocks hI ⟨σ, hσ, rfl⟩ (by decide +kernel)
def rp_L7 (cA : Nat → ClassId) (N0 r : Nat) : List va_E := .inr (7, [.ref (N0 + (r + 1)), .ref (N0 + (r + 6)), .int 0, .int 15, .int 0, .int 0, .ref (N0 + r + 15), .int 0, .ref (N0 + r + 16), .ref (N0 + r + 17), .ref (N0 + r + 18)]) :: (rp_L2 cA N0 (r + 1) ++ rp_L6 cA N0 (r + 6) ++ [.inl (cA 0, 41, .inl (fun _ => 0)), .inl (cA 0, 6, .inl (fun _ => 0)), .inl (cA 0, 6, .inl (fun _ => 0)), .inl (cA 0, 6, .inl (fun _ => 0))])
theorem rp_X7_len {cA : Nat → ClassId} {N0 r : Nat} : ∀ L : List va_E, L = rp_L7 cA N0 r → L.length = 19 := fun L h => by rw [h]; rfl
set_option maxHeartbeats 8000000 in
theorem rp_X7 (l : Launch) (D : va_G) (cA : Nat → ClassId) (N0 r sk sv : Nat) : rp_M l yX7_init cX7_init 1 { frames := 2, cells := 18, slots := 179, locals := 32 } D cA N0 r sk sv (.inr (7, [.null, .null, .int 0, .int 0, .int 0, .int 0, .null, .int 0, .null, .null, .null])) (fun L => L = rp_L7 cA N0 r) 18 179 := by
  refine rp_start (by decide +kernel) (Nat.le_refl _) rfl ?_
  intro p e s m args below meth c ls hF hN hZ hin hr hlocks hI hsz hl
  refine rp_obj hF (idx := 3) (lv_at hl 0 rfl) hl.1 (ra_tb_of (List.mem_of_getElem? (i := 191) (by decide +kernel)) rfl) (by decide +kernel) (by decide +kernel) ⟨(Nat.le_of_ble_eq_true rfl), (Nat.le_of_ble_eq_true rfl)⟩ ?_
  refine rp_sub hF hin hN hZ (lv_at hl 0 rfl) hl.1 hI (i1 := 9) (i2 := 11) (cj := 2) (v := (RX2, TX2, 5)) rfl (ra_tb_of (List.mem_of_getElem? (i := 192) (by decide +kernel)) rfl) (ra_tb_of (List.mem_of_getElem? (i := 193) (by decide +kernel)) rfl) (ra_tb_of (List.mem_of_getElem? (i := 10) (by decide +kernel)) rfl) (ty := tyX2) tyX2_ok (gs := [.int 0, .null, .null, .null, .null]) (by decide +kernel) (Nat.le_of_ble_eq_true rfl) (Nat.le_of_ble_eq_true rfl) (rp_X2 l D cA N0 _ sk sv) rp_X2_len (ra_tb_of (List.mem_of_getElem? (i := 196) (by decide +kernel)) rfl) (ra_tb_of (List.mem_of_getElem? (i := 194) (by decide +kernel)) rfl) (ra_tb_of (List.mem_of_getElem? (i := 195) (by decide +kernel)) rfl) rfl (by decide +kernel) ⟨rfl, rfl⟩ ⟨(Nat.le_of_ble_eq_true rfl), (Nat.le_of_ble_eq_true rfl)⟩ ⟨(Nat.le_of_ble_eq_true rfl), (Nat.le_of_ble_eq_true rfl)⟩ (w := (RX7, TX7, 11)) rfl 0 (index := 12) (ty2 := .object "StickStrings$Laws") (Nat.le_of_ble_eq_true rfl) (Nat.le_of_ble_eq_true rfl) (ra_tb_of (List.mem_of_getElem? (i := 281) (by decide +kernel)) rfl) rfl (by decide +kernel) (fun z => ⟨rfl, rfl⟩) (by decide +kernel) (by decide +kernel) (by decide +kernel) (by decide +kernel) (by decide +kernel) (fun L4 H locs hL4 hI => ?_)
  obtain rfl := hL4
  refine rp_sub hF hin hN hZ (lv_at hl 0 rfl) hl.1 hI (i1 := 18) (i2 := 20) (cj := 6) (v := (RX6, TX6, 9)) rfl (ra_tb_of (List.mem_of_getElem? (i := 225) (by decide +kernel)) rfl) (ra_tb_of (List.mem_of_getElem? (i := 226) (by decide +kernel)) rfl) (ra_tb_of (List.mem_of_getElem? (i := 11) (by decide +kernel)) rfl) (ty := tyX6) tyX6_ok (gs := [.int 0, .null, .null, .null, .null, .null, .null, .null, .null]) (by decide +kernel) (Nat.le_of_ble_eq_true rfl) (Nat.le_of_ble_eq_true rfl) (rp_X6 l D cA N0 _ sk sv) rp_X6_len (ra_tb_of (List.mem_of_getElem? (i := 229) (by decide +kernel)) rfl) (ra_tb_of (List.mem_of_getElem? (i := 227) (by decide +kernel)) rfl) (ra_tb_of (List.mem_of_getElem? (i := 228) (by decide +kernel)) rfl) rfl (by decide +kernel) ⟨rfl, rfl⟩ ⟨(Nat.le_of_ble_eq_true rfl), (Nat.le_of_ble_eq_true rfl)⟩ ⟨(Nat.le_of_ble_eq_true rfl), (Nat.le_of_ble_eq_true rfl)⟩ (w := (RX7, TX7, 11)) rfl 1 (index := 21) (ty2 := .object "StickStrings$Players") (Nat.le_of_ble_eq_true rfl) (Nat.le_of_ble_eq_true rfl) (ra_tb_of (List.mem_of_getElem? (i := 285) (by decide +kernel)) rfl) rfl (by decide +kernel) (fun z => ⟨rfl, rfl⟩) (by decide +kernel) (by decide +kernel) (by decide +kernel) (by decide +kernel) (by decide +kernel) (fun L15 H locs hL15 hI => ?_)
  obtain rfl := hL15
  refine rp_int hF hin (lv_at hl 0 rfl) hI (n := 15) (w := (RX7, TX7, 11)) rfl 3 (index := 25) (pl := 2) (ty := .int) (Nat.le_of_ble_eq_true rfl) (Nat.le_of_ble_eq_true rfl) (ra_tb_of (List.mem_of_getElem? (i := 292) (by decide +kernel)) rfl) rfl (by decide +kernel) ⟨rfl, rfl⟩ (by decide +kernel) (Or.inr ⟨15, by decide +kernel, by decide, rfl⟩) (by decide +kernel) (fun H locs hI => ?_)
  refine rp_int hF hin (lv_at hl 0 rfl) hI (n := 0) (w := (RX7, TX7, 11)) rfl 4 (index := 29) (pl := 1) (ty := .int) (Nat.le_of_ble_eq_true rfl) (Nat.le_of_ble_eq_true rfl) (ra_tb_of (List.mem_of_getElem? (i := 295) (by decide +kernel)) rfl) rfl (by decide +kernel) ⟨rfl, rfl⟩ (by decide +kernel) (Or.inl ⟨0, by decide +kernel, by decide, rfl⟩) (by decide +kernel) (fun H locs hI => ?_)
  refine rp_arrI hF hin (lv_at hl 0 rfl) hI 41 (n := 41) (by decide) (by decide) (Nat.le_of_ble_eq_true rfl) (Nat.le_of_ble_eq_true rfl) (Nat.le_of_ble_eq_true rfl) (w := (RX7, TX7, 11)) rfl 6 (index := 32) (pl := 2) (Nat.le_of_ble_eq_true rfl) (Nat.le_of_ble_eq_true rfl) (ra_tb_of (List.mem_of_getElem? (i := 302) (by decide +kernel)) rfl) rfl (by decide +kernel) (by decide +kernel) (Or.inl ⟨41, by decide +kernel, by decide, rfl⟩) (by decide +kernel) (by decide +kernel) (fun H locs hI => ?_)
  refine rp_arrI hF hin (lv_at hl 0 rfl) hI 6 (n := 6) (by decide) (by decide) (Nat.le_of_ble_eq_true rfl) (Nat.le_of_ble_eq_true rfl) (Nat.le_of_ble_eq_true rfl) (w := (RX7, TX7, 11)) rfl 8 (index := 36) (pl := 2) (Nat.le_of_ble_eq_true rfl) (Nat.le_of_ble_eq_true rfl) (ra_tb_of (List.mem_of_getElem? (i := 308) (by decide +kernel)) rfl) rfl (by decide +kernel) (by decide +kernel) (Or.inl ⟨6, by decide +kernel, by decide, rfl⟩) (by decide +kernel) (by decide +kernel) (fun H locs hI => ?_)
  refine rp_arrI hF hin (lv_at hl 0 rfl) hI 6 (n := 6) (by decide) (by decide) (Nat.le_of_ble_eq_true rfl) (Nat.le_of_ble_eq_true rfl) (Nat.le_of_ble_eq_true rfl) (w := (RX7, TX7, 11)) rfl 9 (index := 39) (pl := 2) (Nat.le_of_ble_eq_true rfl) (Nat.le_of_ble_eq_true rfl) (ra_tb_of (List.mem_of_getElem? (i := 309) (by decide +kernel)) rfl) rfl (by decide +kernel) (by decide +kernel) (Or.inl ⟨6, by decide +kernel, by decide, rfl⟩) (by decide +kernel) (by decide +kernel) (fun H locs hI => ?_)
  refine rp_arrI hF hin (lv_at hl 0 rfl) hI 6 (n := 6) (by decide) (by decide) (Nat.le_of_ble_eq_true rfl) (Nat.le_of_ble_eq_true rfl) (Nat.le_of_ble_eq_true rfl) (w := (RX7, TX7, 11)) rfl 10 (index := 42) (pl := 2) (Nat.le_of_ble_eq_true rfl) (Nat.le_of_ble_eq_true rfl) (ra_tb_of (List.mem_of_getElem? (i := 310) (by decide +kernel)) rfl) rfl (by decide +kernel) (by decide +kernel) (Or.inl ⟨6, by decide +kernel, by decide, rfl⟩) (by decide +kernel) (by decide +kernel) (fun H locs hI => ?_)
  exact rp_ret hF hr hlocks hI rfl (by decide +kernel)
def rp_L11 (cA : Nat → ClassId) (N0 : Nat) (σ : ra_S) : List va_E := .inr (11, [.ref (N0 + 1), .ref (N0 + 10), .ref (N0 + 29), .ref (N0 + 48), .ref (N0 + 56), .ref (N0 + 62), .ref (N0 + 72), .ref (N0 + 77), .ref (N0 + 82), .ref (N0 + 85)]) :: (rp_L4 cA N0 σ ++ rp_L7 cA N0 10 ++ rp_L7 cA N0 29 ++ rp_L9 cA N0 48 ++ rp_L1 cA N0 56 ++ rp_L0 cA N0 62 ++ rp_L5 cA N0 72 ++ rp_L5 cA N0 77 ++ rp_L8 cA N0 82 ++ [.inl (cA 0, 240, .inl (fun _ => 0))])
theorem rp_X11_len {cA : Nat → ClassId} {N0 : Nat} : ∀ L : List va_E, (∃ σ : ra_S, rp_tp σ ∧ L = rp_L11 cA N0 σ) → L.length = 86 := fun L h => by
  obtain ⟨σ, -, rfl⟩ := h
  rfl
set_option maxHeartbeats 8000000 in
theorem rp_X11 (l : Launch) (D : va_G) (cA : Nat → ClassId) (N0 sk sv : Nat) : rp_M l yX11_init cX11_init 1 { frames := 6, cells := 85, slots := 2970, locals := 126 } D cA N0 0 sk sv (.inr (11, [.null, .null, .null, .null, .null, .null, .null, .null, .null, .null])) (fun L => ∃ σ : ra_S, rp_tp σ ∧ L = rp_L11 cA N0 σ) 85 2970 := by
  refine rp_start (by decide +kernel) (Nat.le_refl _) rfl ?_
  intro p e s m args below meth c ls hF hN hZ hin hr hlocks hI hsz hl
  refine rp_obj hF (idx := 3) (lv_at hl 0 rfl) hl.1 (ra_tb_of (List.mem_of_getElem? (i := 31) (by decide +kernel)) rfl) (by decide +kernel) (by decide +kernel) ⟨(Nat.le_of_ble_eq_true rfl), (Nat.le_of_ble_eq_true rfl)⟩ ?_
  refine rp_sub hF hin hN hZ (lv_at hl 0 rfl) hl.1 hI (i1 := 9) (i2 := 11) (cj := 4) (v := (RX4, TX4, 8)) rfl (ra_tb_of (List.mem_of_getElem? (i := 34) (by decide +kernel)) rfl) (ra_tb_of (List.mem_of_getElem? (i := 35) (by decide +kernel)) rfl) (ra_tb_of (List.mem_of_getElem? (i := 2) (by decide +kernel)) rfl) (ty := tyX4) tyX4_ok (gs := [.null, .null, .int 0, .int 0, .int 0, .int 0, .int 0, .int 0]) (by decide +kernel) (Nat.le_of_ble_eq_true rfl) (Nat.le_of_ble_eq_true rfl) (rp_X4 l D cA N0 sk sv) rp_X4_len (ra_tb_of (List.mem_of_getElem? (i := 38) (by decide +kernel)) rfl) (ra_tb_of (List.mem_of_getElem? (i := 36) (by decide +kernel)) rfl) (ra_tb_of (List.mem_of_getElem? (i := 37) (by decide +kernel)) rfl) rfl (by decide +kernel) ⟨rfl, rfl⟩ ⟨(Nat.le_of_ble_eq_true rfl), (Nat.le_of_ble_eq_true rfl)⟩ ⟨(Nat.le_of_ble_eq_true rfl), (Nat.le_of_ble_eq_true rfl)⟩ (w := (RX11, TX11, 10)) rfl 0 (index := 12) (ty2 := .object "StickStrings$Parser") (Nat.le_of_ble_eq_true rfl) (Nat.le_of_ble_eq_true rfl) (ra_tb_of (List.mem_of_getElem? (i := 514) (by decide +kernel)) rfl) rfl (by decide +kernel) (fun z => ⟨rfl, rfl⟩) (by decide +kernel) (by decide +kernel) (by decide +kernel) (by decide +kernel) (by decide +kernel) (fun L4 H locs hL4 hI => ?_)
  obtain ⟨σ, hσ, rfl⟩ := hL4
  refine rp_sub hF hin hN hZ (lv_at hl 0 rfl) hl.1 hI (i1 := 18) (i2 := 20) (cj := 7) (v := (RX7, TX7, 11)) rfl (ra_tb_of (List.mem_of_getElem? (i := 186) (by decide +kernel)) rfl) (ra_tb_of (List.mem_of_getElem? (i := 187) (by decide +kernel)) rfl) (ra_tb_of (List.mem_of_getElem? (i := 9) (by decide +kernel)) rfl) (ty := tyX7) tyX7_ok (gs := [.null, .null, .int 0, .int 0, .int 0, .int 0, .null, .int 0, .null, .null, .null]) (by decide +kernel) (Nat.le_of_ble_eq_true rfl) (Nat.le_of_ble_eq_true rfl) (rp_X7 l D cA N0 _ sk sv) rp_X7_len (ra_tb_of (List.mem_of_getElem? (i := 190) (by decide +kernel)) rfl) (ra_tb_of (List.mem_of_getElem? (i := 188) (by decide +kernel)) rfl) (ra_tb_of (List.mem_of_getElem? (i := 189) (by decide +kernel)) rfl) rfl (by decide +kernel) ⟨rfl, rfl⟩ ⟨(Nat.le_of_ble_eq_true rfl), (Nat.le_of_ble_eq_true rfl)⟩ ⟨(Nat.le_of_ble_eq_true rfl), (Nat.le_of_ble_eq_true rfl)⟩ (w := (RX11, TX11, 10)) rfl 1 (index := 21) (ty2 := .object "StickStrings$Score") (Nat.le_of_ble_eq_true rfl) (Nat.le_of_ble_eq_true rfl) (ra_tb_of (List.mem_of_getElem? (i := 515) (by decide +kernel)) rfl) rfl (by decide +kernel) (fun z => ⟨rfl, rfl⟩) (by decide +kernel) (by decide +kernel) (by decide +kernel) (by decide +kernel) (by decide +kernel) (fun L15 H locs hL15 hI => ?_)
  obtain rfl := hL15
  refine rp_sub hF hin hN hZ (lv_at hl 0 rfl) hl.1 hI (i1 := 18) (i2 := 20) (cj := 7) (v := (RX7, TX7, 11)) rfl (ra_tb_of (List.mem_of_getElem? (i := 186) (by decide +kernel)) rfl) (ra_tb_of (List.mem_of_getElem? (i := 187) (by decide +kernel)) rfl) (ra_tb_of (List.mem_of_getElem? (i := 9) (by decide +kernel)) rfl) (ty := tyX7) tyX7_ok (gs := [.null, .null, .int 0, .int 0, .int 0, .int 0, .null, .int 0, .null, .null, .null]) (by decide +kernel) (Nat.le_of_ble_eq_true rfl) (Nat.le_of_ble_eq_true rfl) (rp_X7 l D cA N0 _ sk sv) rp_X7_len (ra_tb_of (List.mem_of_getElem? (i := 190) (by decide +kernel)) rfl) (ra_tb_of (List.mem_of_getElem? (i := 188) (by decide +kernel)) rfl) (ra_tb_of (List.mem_of_getElem? (i := 189) (by decide +kernel)) rfl) rfl (by decide +kernel) ⟨rfl, rfl⟩ ⟨(Nat.le_of_ble_eq_true rfl), (Nat.le_of_ble_eq_true rfl)⟩ ⟨(Nat.le_of_ble_eq_true rfl), (Nat.le_of_ble_eq_true rfl)⟩ (w := (RX11, TX11, 10)) rfl 2 (index := 25) (ty2 := .object "StickStrings$Score") (Nat.le_of_ble_eq_true rfl) (Nat.le_of_ble_eq_true rfl) (ra_tb_of (List.mem_of_getElem? (i := 516) (by decide +kernel)) rfl) rfl (by decide +kernel) (fun z => ⟨rfl, rfl⟩) (by decide +kernel) (by decide +kernel) (by decide +kernel) (by decide +kernel) (by decide +kernel) (fun L26 H locs hL26 hI => ?_)
  obtain rfl := hL26
  refine rp_sub hF hin hN hZ (lv_at hl 0 rfl) hl.1 hI (i1 := 28) (i2 := 30) (cj := 9) (v := (RX9, TX9, 9)) rfl (ra_tb_of (List.mem_of_getElem? (i := 334) (by decide +kernel)) rfl) (ra_tb_of (List.mem_of_getElem? (i := 335) (by decide +kernel)) rfl) (ra_tb_of (List.mem_of_getElem? (i := 12) (by decide +kernel)) rfl) (ty := tyX9) tyX9_ok (gs := [.null, .null, .null, .int 0, .int 0, .null, .null, .null, .null]) (by decide +kernel) (Nat.le_of_ble_eq_true rfl) (Nat.le_of_ble_eq_true rfl) (rp_X9 l D cA N0 _ sk sv) rp_X9_len (ra_tb_of (List.mem_of_getElem? (i := 338) (by decide +kernel)) rfl) (ra_tb_of (List.mem_of_getElem? (i := 336) (by decide +kernel)) rfl) (ra_tb_of (List.mem_of_getElem? (i := 337) (by decide +kernel)) rfl) rfl (by decide +kernel) ⟨rfl, rfl⟩ ⟨(Nat.le_of_ble_eq_true rfl), (Nat.le_of_ble_eq_true rfl)⟩ ⟨(Nat.le_of_ble_eq_true rfl), (Nat.le_of_ble_eq_true rfl)⟩ (w := (RX11, TX11, 10)) rfl 3 (index := 31) (ty2 := .object "StickStrings$Stage") (Nat.le_of_ble_eq_true rfl) (Nat.le_of_ble_eq_true rfl) (ra_tb_of (List.mem_of_getElem? (i := 517) (by decide +kernel)) rfl) rfl (by decide +kernel) (fun z => ⟨rfl, rfl⟩) (by decide +kernel) (by decide +kernel) (by decide +kernel) (by decide +kernel) (by decide +kernel) (fun L37 H locs hL37 hI => ?_)
  obtain rfl := hL37
  refine rp_sub hF hin hN hZ (lv_at hl 0 rfl) hl.1 hI (i1 := 35) (i2 := 37) (cj := 1) (v := (RX1, TX1, 7)) rfl (ra_tb_of (List.mem_of_getElem? (i := 375) (by decide +kernel)) rfl) (ra_tb_of (List.mem_of_getElem? (i := 376) (by decide +kernel)) rfl) (ra_tb_of (List.mem_of_getElem? (i := 13) (by decide +kernel)) rfl) (ty := tyX1) tyX1_ok (gs := [.int 0, .int 0, .null, .null, .null, .null, .null]) (by decide +kernel) (Nat.le_of_ble_eq_true rfl) (Nat.le_of_ble_eq_true rfl) (rp_X1 l D cA N0 _ sk sv) rp_X1_len (ra_tb_of (List.mem_of_getElem? (i := 379) (by decide +kernel)) rfl) (ra_tb_of (List.mem_of_getElem? (i := 377) (by decide +kernel)) rfl) (ra_tb_of (List.mem_of_getElem? (i := 378) (by decide +kernel)) rfl) rfl (by decide +kernel) ⟨rfl, rfl⟩ ⟨(Nat.le_of_ble_eq_true rfl), (Nat.le_of_ble_eq_true rfl)⟩ ⟨(Nat.le_of_ble_eq_true rfl), (Nat.le_of_ble_eq_true rfl)⟩ (w := (RX11, TX11, 10)) rfl 4 (index := 38) (ty2 := .object "StickStrings$Film") (Nat.le_of_ble_eq_true rfl) (Nat.le_of_ble_eq_true rfl) (ra_tb_of (List.mem_of_getElem? (i := 518) (by decide +kernel)) rfl) rfl (by decide +kernel) (fun z => ⟨rfl, rfl⟩) (by decide +kernel) (by decide +kernel) (by decide +kernel) (by decide +kernel) (by decide +kernel) (fun L48 H locs hL48 hI => ?_)
  obtain rfl := hL48
  refine rp_sub hF hin hN hZ (lv_at hl 0 rfl) hl.1 hI (i1 := 42) (i2 := 44) (cj := 0) (v := (RX0, TX0, 14)) rfl (ra_tb_of (List.mem_of_getElem? (i := 405) (by decide +kernel)) rfl) (ra_tb_of (List.mem_of_getElem? (i := 406) (by decide +kernel)) rfl) (ra_tb_of (List.mem_of_getElem? (i := 14) (by decide +kernel)) rfl) (ty := tyX0) tyX0_ok (gs := [.null, .null, .null, .null, .null, .null, .null, .null, .null, .int 0, .int 0, .int 0, .int 0, .int 0]) (by decide +kernel) (Nat.le_of_ble_eq_true rfl) (Nat.le_of_ble_eq_true rfl) (rp_X0 l D cA N0 _ sk sv) rp_X0_len (ra_tb_of (List.mem_of_getElem? (i := 409) (by decide +kernel)) rfl) (ra_tb_of (List.mem_of_getElem? (i := 407) (by decide +kernel)) rfl) (ra_tb_of (List.mem_of_getElem? (i := 408) (by decide +kernel)) rfl) rfl (by decide +kernel) ⟨rfl, rfl⟩ ⟨(Nat.le_of_ble_eq_true rfl), (Nat.le_of_ble_eq_true rfl)⟩ ⟨(Nat.le_of_ble_eq_true rfl), (Nat.le_of_ble_eq_true rfl)⟩ (w := (RX11, TX11, 10)) rfl 5 (index := 45) (ty2 := .object "StickStrings$Cast") (Nat.le_of_ble_eq_true rfl) (Nat.le_of_ble_eq_true rfl) (ra_tb_of (List.mem_of_getElem? (i := 519) (by decide +kernel)) rfl) rfl (by decide +kernel) (fun z => ⟨rfl, rfl⟩) (by decide +kernel) (by decide +kernel) (by decide +kernel) (by decide +kernel) (by decide +kernel) (fun L59 H locs hL59 hI => ?_)
  obtain rfl := hL59
  refine rp_sub hF hin hN hZ (lv_at hl 0 rfl) hl.1 hI (i1 := 49) (i2 := 51) (cj := 5) (v := (RX5, TX5, 6)) rfl (ra_tb_of (List.mem_of_getElem? (i := 466) (by decide +kernel)) rfl) (ra_tb_of (List.mem_of_getElem? (i := 467) (by decide +kernel)) rfl) (ra_tb_of (List.mem_of_getElem? (i := 15) (by decide +kernel)) rfl) (ty := tyX5) tyX5_ok (gs := [.null, .null, .null, .null, .long 0, .long 0]) (by decide +kernel) (Nat.le_of_ble_eq_true rfl) (Nat.le_of_ble_eq_true rfl) (rp_X5 l D cA N0 _ sk sv) rp_X5_len (ra_tb_of (List.mem_of_getElem? (i := 470) (by decide +kernel)) rfl) (ra_tb_of (List.mem_of_getElem? (i := 468) (by decide +kernel)) rfl) (ra_tb_of (List.mem_of_getElem? (i := 469) (by decide +kernel)) rfl) rfl (by decide +kernel) ⟨rfl, rfl⟩ ⟨(Nat.le_of_ble_eq_true rfl), (Nat.le_of_ble_eq_true rfl)⟩ ⟨(Nat.le_of_ble_eq_true rfl), (Nat.le_of_ble_eq_true rfl)⟩ (w := (RX11, TX11, 10)) rfl 6 (index := 52) (ty2 := .object "StickStrings$Play") (Nat.le_of_ble_eq_true rfl) (Nat.le_of_ble_eq_true rfl) (ra_tb_of (List.mem_of_getElem? (i := 520) (by decide +kernel)) rfl) rfl (by decide +kernel) (fun z => ⟨rfl, rfl⟩) (by decide +kernel) (by decide +kernel) (by decide +kernel) (by decide +kernel) (by decide +kernel) (fun L70 H locs hL70 hI => ?_)
  obtain rfl := hL70
  refine rp_sub hF hin hN hZ (lv_at hl 0 rfl) hl.1 hI (i1 := 49) (i2 := 51) (cj := 5) (v := (RX5, TX5, 6)) rfl (ra_tb_of (List.mem_of_getElem? (i := 466) (by decide +kernel)) rfl) (ra_tb_of (List.mem_of_getElem? (i := 467) (by decide +kernel)) rfl) (ra_tb_of (List.mem_of_getElem? (i := 15) (by decide +kernel)) rfl) (ty := tyX5) tyX5_ok (gs := [.null, .null, .null, .null, .long 0, .long 0]) (by decide +kernel) (Nat.le_of_ble_eq_true rfl) (Nat.le_of_ble_eq_true rfl) (rp_X5 l D cA N0 _ sk sv) rp_X5_len (ra_tb_of (List.mem_of_getElem? (i := 470) (by decide +kernel)) rfl) (ra_tb_of (List.mem_of_getElem? (i := 468) (by decide +kernel)) rfl) (ra_tb_of (List.mem_of_getElem? (i := 469) (by decide +kernel)) rfl) rfl (by decide +kernel) ⟨rfl, rfl⟩ ⟨(Nat.le_of_ble_eq_true rfl), (Nat.le_of_ble_eq_true rfl)⟩ ⟨(Nat.le_of_ble_eq_true rfl), (Nat.le_of_ble_eq_true rfl)⟩ (w := (RX11, TX11, 10)) rfl 7 (index := 56) (ty2 := .object "StickStrings$Play") (Nat.le_of_ble_eq_true rfl) (Nat.le_of_ble_eq_true rfl) (ra_tb_of (List.mem_of_getElem? (i := 521) (by decide +kernel)) rfl) rfl (by decide +kernel) (fun z => ⟨rfl, rfl⟩) (by decide +kernel) (by decide +kernel) (by decide +kernel) (by decide +kernel) (by decide +kernel) (fun L81 H locs hL81 hI => ?_)
  obtain rfl := hL81
  refine rp_sub hF hin hN hZ (lv_at hl 0 rfl) hl.1 hI (i1 := 59) (i2 := 61) (cj := 8) (v := (RX8, TX8, 4)) rfl (ra_tb_of (List.mem_of_getElem? (i := 492) (by decide +kernel)) rfl) (ra_tb_of (List.mem_of_getElem? (i := 493) (by decide +kernel)) rfl) (ra_tb_of (List.mem_of_getElem? (i := 16) (by decide +kernel)) rfl) (ty := tyX8) tyX8_ok (gs := [.int 0, .null, .null, .long 0]) (by decide +kernel) (Nat.le_of_ble_eq_true rfl) (Nat.le_of_ble_eq_true rfl) (rp_X8 l D cA N0 _ sk sv) rp_X8_len (ra_tb_of (List.mem_of_getElem? (i := 496) (by decide +kernel)) rfl) (ra_tb_of (List.mem_of_getElem? (i := 494) (by decide +kernel)) rfl) (ra_tb_of (List.mem_of_getElem? (i := 495) (by decide +kernel)) rfl) rfl (by decide +kernel) ⟨rfl, rfl⟩ ⟨(Nat.le_of_ble_eq_true rfl), (Nat.le_of_ble_eq_true rfl)⟩ ⟨(Nat.le_of_ble_eq_true rfl), (Nat.le_of_ble_eq_true rfl)⟩ (w := (RX11, TX11, 10)) rfl 8 (index := 62) (ty2 := .object "StickStrings$Seating") (Nat.le_of_ble_eq_true rfl) (Nat.le_of_ble_eq_true rfl) (ra_tb_of (List.mem_of_getElem? (i := 522) (by decide +kernel)) rfl) rfl (by decide +kernel) (fun z => ⟨rfl, rfl⟩) (by decide +kernel) (by decide +kernel) (by decide +kernel) (by decide +kernel) (by decide +kernel) (fun L92 H locs hL92 hI => ?_)
  obtain rfl := hL92
  refine rp_arrI hF hin (lv_at hl 0 rfl) hI 240 (n := 240) (by decide) (by decide) (Nat.le_of_ble_eq_true rfl) (Nat.le_of_ble_eq_true rfl) (Nat.le_of_ble_eq_true rfl) (w := (RX11, TX11, 10)) rfl 9 (index := 66) (pl := 3) (Nat.le_of_ble_eq_true rfl) (Nat.le_of_ble_eq_true rfl) (ra_tb_of (List.mem_of_getElem? (i := 523) (by decide +kernel)) rfl) rfl (by decide +kernel) (by decide +kernel) (Or.inr ⟨240, by decide +kernel, by decide, rfl⟩) (by decide +kernel) (by decide +kernel) (fun H locs hI => ?_)
  exact rp_ret hF hr hlocks hI ⟨σ, hσ, rfl⟩ (by decide +kernel)
def rp_s2 (g : Nat → Int32) : ra_S := (fun i => bif Nat.beq i 88 then g else (bif Nat.beq i 86 then (fun k => bif Nat.beq k 5 then -1 else (bif Nat.beq k 39 then -1 else (bif Nat.beq k 40 then -1 else (bif Nat.beq k 41 then -1 else (bif Nat.beq k 48 then -1 else (0)))))) else fun _ => 0), fun _ _ => 0)
def rp_md (υ : ra_S) : Prop := (υ.1 86 1 = 0 ∧ υ.1 86 4 = 0 ∧ υ.1 86 5 = -1) ∧ (υ.1 86 12 = 0 ∧ υ.1 86 13 = 0 ∧ υ.1 86 14 = 0 ∧ υ.1 86 15 = 0 ∧ υ.1 86 16 = 15 ∧ υ.1 86 17 = 0) ∧ (υ.1 86 39 = -1 ∧ υ.1 86 40 = -1 ∧ υ.1 86 41 = -1) ∧ (υ.1 86 43 = 0 ∧ υ.1 86 47 = 0 ∧ υ.1 86 48 = -1) ∧ ∀ i, i < 63 → υ.1 88 i = rz_chars.getD i 0
theorem rp_model {g : Nat → Int32} (hg : ∀ j, j < 63 → g j = rz_chars.getD j 0) : ∃ υ : ra_S, ra_D (rp_lay86, none, 99999, rp_mM) 629 [some (.ref 86)] [] (rp_s2 g) = some (.inl none, υ) ∧ rp_md υ := by
  obtain ⟨υ, e, k1, -, -, ⟨k2, k3, k4, k5, k6, k7⟩, ⟨k8, k9, k10⟩, k11, -⟩ := rp_m_keep (ra_ui (ra_ui (ra_ui (ra_ui (ra_ui (ra_ui (ra_ui (rp_s2 g) 86 18 (0 : Int32)) 86 19 (0 : Int32)) 86 20 (0 : Int32)) 86 21 (0 : Int32)) 86 22 (15 : Int32)) 86 23 (0 : Int32)) 86 24 (0 : Int32))
  refine ⟨υ, ?_, ⟨?_, ?_, ?_⟩, ⟨k2, k3, k4, k5, k6, k7⟩, ⟨?_, ?_, ?_⟩, ⟨k10, k8, k9⟩, fun i hi => ?_⟩
  · rw [p_M_629, p_155, ra_kV, p_M_633, e]
    show ra_D (rp_lay86, none, 99999, rp_mM) 637 [some (.ref 86)] [] υ = _
    rw [p_M_637]
  · rw [k11 1 (by omega) (by omega) (by omega) (by omega)]; rfl
  · rw [k11 4 (by omega) (by omega) (by omega) (by omega)]; rfl
  · rw [k11 5 (by omega) (by omega) (by omega) (by omega)]; rfl
  · rw [k11 39 (by omega) (by omega) (by omega) (by omega)]; rfl
  · rw [k11 40 (by omega) (by omega) (by omega) (by omega)]; rfl
  · rw [k11 41 (by omega) (by omega) (by omega) (by omega)]; rfl
  · rw [k1 88 (by decide) (by omega) (by decide)]
    exact hg i hi
theorem rp_X12_len {cA : Nat → ClassId} {N0 : Nat} : ∀ L : List va_E, (∃ υ : ra_S, rp_md υ ∧ L = rp_ls (rp_ad N0 86 114) cA υ 86 29) → L.length = 29 := fun L h => by
  obtain ⟨σ, -, rfl⟩ := h
  rw [rp_ls_len]
set_option maxHeartbeats 16000000 in
theorem rp_X12 (l : Launch) (D : va_G) (cA : Nat → ClassId) (N0 sk sv : Nat) : rp_M l yX12_init cX12_init 1 { frames := 2, cells := 28, slots := 2509, locals := 43 } D cA N0 86 sk sv (.inr (12, [.null, .int 0, .int 0, .null, .int 0, .int 0, .int 0, .int 0, .int 0, .int 0, .int 0, .int 0, .int 0, .int 0, .int 0, .int 0, .int 0, .int 0, .int 0, .int 0, .int 0, .int 0, .int 0, .int 0, .int 0, .null, .null, .null, .null, .null, .null, .null, .null, .null, .null, .null, .null, .null, .null, .int 0, .int 0, .int 0, .long 0, .int 0, .null, .null, .null, .int 0, .int 0, .null, .null, .null, .null, .null, .null, .null, .null, .null])) (fun L => ∃ υ : ra_S, rp_md υ ∧ L = rp_ls (rp_ad N0 86 114) cA υ 86 29) 28 2509 := by
  refine rp_start (by decide +kernel) (Nat.le_refl _) rfl ?_
  intro p e s m args below meth c ls hF hN hZ hin hr hlocks hI hsz hl
  have hx := hF.1
  have hb := hF.2.1
  refine rp_obj hF (idx := 1) (lv_at hl 0 rfl) hl.1 (ra_tb_of (List.mem_of_getElem? (i := 1248) (by decide +kernel)) rfl) (by decide +kernel) (by decide +kernel) ⟨(Nat.le_of_ble_eq_true rfl), (Nat.le_of_ble_eq_true rfl)⟩ ?_
  refine rp_arrI hF hin (lv_at hl 0 rfl) hI 800 (n := 800) (by decide) (by decide) (Nat.le_of_ble_eq_true rfl) (Nat.le_of_ble_eq_true rfl) (Nat.le_of_ble_eq_true rfl) (w := (RX12, TX12, 58)) rfl 0 (index := 7) (pl := 3) (Nat.le_of_ble_eq_true rfl) (Nat.le_of_ble_eq_true rfl) (ra_tb_of (List.mem_of_getElem? (i := 1260) (by decide +kernel)) rfl) rfl (by decide +kernel) (by decide +kernel) (Or.inr ⟨800, by decide +kernel, by decide, rfl⟩) (by decide +kernel) (by decide +kernel) (fun H locs hI => ?_)
  refine lv_aload_n hx hb (by decide +kernel : decode cX12_init 13 = .ok (.aload_n 0, 1)) rfl (lv_at hl 0 rfl) ?_
  refine lv_bipush (v := 63) hx hb (by decide +kernel : decode cX12_init 14 = .ok (.bipush 63, 2)) (by decide) ?_
  refine rp_newq hF hI (q := 0) (N := 63) (atype := .int) (a0 := (63, .inl (fun _ => 0))) rp_wI rfl (fun h => h) rfl (by decide) (by decide) (Nat.le_of_ble_eq_true rfl) (Nat.le_of_ble_eq_true rfl) (Nat.le_of_ble_eq_true rfl) (by decide +kernel) (fun H hI => ?_)
  refine rp_fill hF (n := 63) (by decide) (z := 390) rz_chars 18 0 (fun _ => 0) H _ (by decide +kernel) (Nat.le_of_ble_eq_true rfl) hI (fun g H locs _ hg hI => ?_)
  refine rp_put hF hin (ci := 12) (T0 := [.inl (cA 0, 800, .inl (fun _ => 0)), .inl (cA 0, 63, .inl g)]) hI (q := (RX12, TX12, 58)) rfl (k := 3) (index := 13) (ty := .array .int) (Nat.le_of_ble_eq_true rfl) (Nat.le_of_ble_eq_true rfl) (ra_tb_of (List.mem_of_getElem? (i := 1263) (by decide +kernel)) rfl) rfl (by decide +kernel) rfl rfl (by decide +kernel) (fun H locs hI => ?_)
  refine rp_int hF hin (lv_at hl 0 rfl) hI (n := (-1)) (w := (RX12, TX12, 58)) rfl 5 (index := 16) (pl := 1) (ty := .int) (Nat.le_of_ble_eq_true rfl) (Nat.le_of_ble_eq_true rfl) (ra_tb_of (List.mem_of_getElem? (i := 1265) (by decide +kernel)) rfl) rfl (by decide +kernel) ⟨rfl, rfl⟩ (by decide +kernel) (Or.inl ⟨(-1), by decide +kernel, by decide, rfl⟩) (by decide +kernel) (fun H locs hI => ?_)
  refine rp_arrI hF hin (lv_at hl 0 rfl) hI 80 (n := 80) (by decide) (by decide) (Nat.le_of_ble_eq_true rfl) (Nat.le_of_ble_eq_true rfl) (Nat.le_of_ble_eq_true rfl) (w := (RX12, TX12, 58)) rfl 25 (index := 20) (pl := 2) (Nat.le_of_ble_eq_true rfl) (Nat.le_of_ble_eq_true rfl) (ra_tb_of (List.mem_of_getElem? (i := 1285) (by decide +kernel)) rfl) rfl (by decide +kernel) (by decide +kernel) (Or.inl ⟨80, by decide +kernel, by decide, rfl⟩) (by decide +kernel) (by decide +kernel) (fun H locs hI => ?_)
  refine rp_arrI hF hin (lv_at hl 0 rfl) hI 12 (n := 12) (by decide) (by decide) (Nat.le_of_ble_eq_true rfl) (Nat.le_of_ble_eq_true rfl) (Nat.le_of_ble_eq_true rfl) (w := (RX12, TX12, 58)) rfl 26 (index := 23) (pl := 2) (Nat.le_of_ble_eq_true rfl) (Nat.le_of_ble_eq_true rfl) (ra_tb_of (List.mem_of_getElem? (i := 1286) (by decide +kernel)) rfl) rfl (by decide +kernel) (by decide +kernel) (Or.inl ⟨12, by decide +kernel, by decide, rfl⟩) (by decide +kernel) (by decide +kernel) (fun H locs hI => ?_)
  refine rp_arrI hF hin (lv_at hl 0 rfl) hI 72 (n := 72) (by decide) (by decide) (Nat.le_of_ble_eq_true rfl) (Nat.le_of_ble_eq_true rfl) (Nat.le_of_ble_eq_true rfl) (w := (RX12, TX12, 58)) rfl 27 (index := 26) (pl := 2) (Nat.le_of_ble_eq_true rfl) (Nat.le_of_ble_eq_true rfl) (ra_tb_of (List.mem_of_getElem? (i := 1287) (by decide +kernel)) rfl) rfl (by decide +kernel) (by decide +kernel) (Or.inl ⟨72, by decide +kernel, by decide, rfl⟩) (by decide +kernel) (by decide +kernel) (fun H locs hI => ?_)
  refine rp_arrI hF hin (lv_at hl 0 rfl) hI 16 (n := 16) (by decide) (by decide) (Nat.le_of_ble_eq_true rfl) (Nat.le_of_ble_eq_true rfl) (Nat.le_of_ble_eq_true rfl) (w := (RX12, TX12, 58)) rfl 28 (index := 29) (pl := 2) (Nat.le_of_ble_eq_true rfl) (Nat.le_of_ble_eq_true rfl) (ra_tb_of (List.mem_of_getElem? (i := 1288) (by decide +kernel)) rfl) rfl (by decide +kernel) (by decide +kernel) (Or.inl ⟨16, by decide +kernel, by decide, rfl⟩) (by decide +kernel) (by decide +kernel) (fun H locs hI => ?_)
  refine rp_arrI hF hin (lv_at hl 0 rfl) hI 80 (n := 80) (by decide) (by decide) (Nat.le_of_ble_eq_true rfl) (Nat.le_of_ble_eq_true rfl) (Nat.le_of_ble_eq_true rfl) (w := (RX12, TX12, 58)) rfl 29 (index := 32) (pl := 2) (Nat.le_of_ble_eq_true rfl) (Nat.le_of_ble_eq_true rfl) (ra_tb_of (List.mem_of_getElem? (i := 1289) (by decide +kernel)) rfl) rfl (by decide +kernel) (by decide +kernel) (Or.inl ⟨80, by decide +kernel, by decide, rfl⟩) (by decide +kernel) (by decide +kernel) (fun H locs hI => ?_)
  refine rp_arrI hF hin (lv_at hl 0 rfl) hI 16 (n := 16) (by decide) (by decide) (Nat.le_of_ble_eq_true rfl) (Nat.le_of_ble_eq_true rfl) (Nat.le_of_ble_eq_true rfl) (w := (RX12, TX12, 58)) rfl 30 (index := 35) (pl := 2) (Nat.le_of_ble_eq_true rfl) (Nat.le_of_ble_eq_true rfl) (ra_tb_of (List.mem_of_getElem? (i := 1290) (by decide +kernel)) rfl) rfl (by decide +kernel) (by decide +kernel) (Or.inl ⟨16, by decide +kernel, by decide, rfl⟩) (by decide +kernel) (by decide +kernel) (fun H locs hI => ?_)
  refine rp_arrI hF hin (lv_at hl 0 rfl) hI 16 (n := 16) (by decide) (by decide) (Nat.le_of_ble_eq_true rfl) (Nat.le_of_ble_eq_true rfl) (Nat.le_of_ble_eq_true rfl) (w := (RX12, TX12, 58)) rfl 31 (index := 38) (pl := 2) (Nat.le_of_ble_eq_true rfl) (Nat.le_of_ble_eq_true rfl) (ra_tb_of (List.mem_of_getElem? (i := 1291) (by decide +kernel)) rfl) rfl (by decide +kernel) (by decide +kernel) (Or.inl ⟨16, by decide +kernel, by decide, rfl⟩) (by decide +kernel) (by decide +kernel) (fun H locs hI => ?_)
  refine rp_arrI hF hin (lv_at hl 0 rfl) hI 42 (n := 42) (by decide) (by decide) (Nat.le_of_ble_eq_true rfl) (Nat.le_of_ble_eq_true rfl) (Nat.le_of_ble_eq_true rfl) (w := (RX12, TX12, 58)) rfl 32 (index := 41) (pl := 2) (Nat.le_of_ble_eq_true rfl) (Nat.le_of_ble_eq_true rfl) (ra_tb_of (List.mem_of_getElem? (i := 1292) (by decide +kernel)) rfl) rfl (by decide +kernel) (by decide +kernel) (Or.inl ⟨42, by decide +kernel, by decide, rfl⟩) (by decide +kernel) (by decide +kernel) (fun H locs hI => ?_)
  refine rp_arrI hF hin (lv_at hl 0 rfl) hI 64 (n := 64) (by decide) (by decide) (Nat.le_of_ble_eq_true rfl) (Nat.le_of_ble_eq_true rfl) (Nat.le_of_ble_eq_true rfl) (w := (RX12, TX12, 58)) rfl 33 (index := 44) (pl := 2) (Nat.le_of_ble_eq_true rfl) (Nat.le_of_ble_eq_true rfl) (ra_tb_of (List.mem_of_getElem? (i := 1293) (by decide +kernel)) rfl) rfl (by decide +kernel) (by decide +kernel) (Or.inl ⟨64, by decide +kernel, by decide, rfl⟩) (by decide +kernel) (by decide +kernel) (fun H locs hI => ?_)
  refine rp_arrI hF hin (lv_at hl 0 rfl) hI 64 (n := 64) (by decide) (by decide) (Nat.le_of_ble_eq_true rfl) (Nat.le_of_ble_eq_true rfl) (Nat.le_of_ble_eq_true rfl) (w := (RX12, TX12, 58)) rfl 34 (index := 47) (pl := 2) (Nat.le_of_ble_eq_true rfl) (Nat.le_of_ble_eq_true rfl) (ra_tb_of (List.mem_of_getElem? (i := 1294) (by decide +kernel)) rfl) rfl (by decide +kernel) (by decide +kernel) (Or.inl ⟨64, by decide +kernel, by decide, rfl⟩) (by decide +kernel) (by decide +kernel) (fun H locs hI => ?_)
  refine rp_arrI hF hin (lv_at hl 0 rfl) hI 8 (n := 8) (by decide) (by decide) (Nat.le_of_ble_eq_true rfl) (Nat.le_of_ble_eq_true rfl) (Nat.le_of_ble_eq_true rfl) (w := (RX12, TX12, 58)) rfl 35 (index := 50) (pl := 2) (Nat.le_of_ble_eq_true rfl) (Nat.le_of_ble_eq_true rfl) (ra_tb_of (List.mem_of_getElem? (i := 1295) (by decide +kernel)) rfl) rfl (by decide +kernel) (by decide +kernel) (Or.inl ⟨8, by decide +kernel, by decide, rfl⟩) (by decide +kernel) (by decide +kernel) (fun H locs hI => ?_)
  refine rp_arrI hF hin (lv_at hl 0 rfl) hI 8 (n := 8) (by decide) (by decide) (Nat.le_of_ble_eq_true rfl) (Nat.le_of_ble_eq_true rfl) (Nat.le_of_ble_eq_true rfl) (w := (RX12, TX12, 58)) rfl 36 (index := 53) (pl := 2) (Nat.le_of_ble_eq_true rfl) (Nat.le_of_ble_eq_true rfl) (ra_tb_of (List.mem_of_getElem? (i := 1296) (by decide +kernel)) rfl) rfl (by decide +kernel) (by decide +kernel) (Or.inl ⟨8, by decide +kernel, by decide, rfl⟩) (by decide +kernel) (by decide +kernel) (fun H locs hI => ?_)
  refine rp_arrI hF hin (lv_at hl 0 rfl) hI 8 (n := 8) (by decide) (by decide) (Nat.le_of_ble_eq_true rfl) (Nat.le_of_ble_eq_true rfl) (Nat.le_of_ble_eq_true rfl) (w := (RX12, TX12, 58)) rfl 37 (index := 56) (pl := 2) (Nat.le_of_ble_eq_true rfl) (Nat.le_of_ble_eq_true rfl) (ra_tb_of (List.mem_of_getElem? (i := 1297) (by decide +kernel)) rfl) rfl (by decide +kernel) (by decide +kernel) (Or.inl ⟨8, by decide +kernel, by decide, rfl⟩) (by decide +kernel) (by decide +kernel) (fun H locs hI => ?_)
  refine rp_arrI hF hin (lv_at hl 0 rfl) hI 320 (n := 320) (by decide) (by decide) (Nat.le_of_ble_eq_true rfl) (Nat.le_of_ble_eq_true rfl) (Nat.le_of_ble_eq_true rfl) (w := (RX12, TX12, 58)) rfl 38 (index := 59) (pl := 3) (Nat.le_of_ble_eq_true rfl) (Nat.le_of_ble_eq_true rfl) (ra_tb_of (List.mem_of_getElem? (i := 1298) (by decide +kernel)) rfl) rfl (by decide +kernel) (by decide +kernel) (Or.inr ⟨320, by decide +kernel, by decide, rfl⟩) (by decide +kernel) (by decide +kernel) (fun H locs hI => ?_)
  refine rp_int hF hin (lv_at hl 0 rfl) hI (n := (-1)) (w := (RX12, TX12, 58)) rfl 39 (index := 62) (pl := 1) (ty := .int) (Nat.le_of_ble_eq_true rfl) (Nat.le_of_ble_eq_true rfl) (ra_tb_of (List.mem_of_getElem? (i := 1299) (by decide +kernel)) rfl) rfl (by decide +kernel) ⟨rfl, rfl⟩ (by decide +kernel) (Or.inl ⟨(-1), by decide +kernel, by decide, rfl⟩) (by decide +kernel) (fun H locs hI => ?_)
  refine rp_int hF hin (lv_at hl 0 rfl) hI (n := (-1)) (w := (RX12, TX12, 58)) rfl 40 (index := 65) (pl := 1) (ty := .int) (Nat.le_of_ble_eq_true rfl) (Nat.le_of_ble_eq_true rfl) (ra_tb_of (List.mem_of_getElem? (i := 1300) (by decide +kernel)) rfl) rfl (by decide +kernel) ⟨rfl, rfl⟩ (by decide +kernel) (Or.inl ⟨(-1), by decide +kernel, by decide, rfl⟩) (by decide +kernel) (fun H locs hI => ?_)
  refine rp_int hF hin (lv_at hl 0 rfl) hI (n := (-1)) (w := (RX12, TX12, 58)) rfl 41 (index := 68) (pl := 1) (ty := .int) (Nat.le_of_ble_eq_true rfl) (Nat.le_of_ble_eq_true rfl) (ra_tb_of (List.mem_of_getElem? (i := 1301) (by decide +kernel)) rfl) rfl (by decide +kernel) ⟨rfl, rfl⟩ (by decide +kernel) (Or.inl ⟨(-1), by decide +kernel, by decide, rfl⟩) (by decide +kernel) (fun H locs hI => ?_)
  refine rp_arrI hF hin (lv_at hl 0 rfl) hI 80 (n := 80) (by decide) (by decide) (Nat.le_of_ble_eq_true rfl) (Nat.le_of_ble_eq_true rfl) (Nat.le_of_ble_eq_true rfl) (w := (RX12, TX12, 58)) rfl 44 (index := 71) (pl := 2) (Nat.le_of_ble_eq_true rfl) (Nat.le_of_ble_eq_true rfl) (ra_tb_of (List.mem_of_getElem? (i := 1304) (by decide +kernel)) rfl) rfl (by decide +kernel) (by decide +kernel) (Or.inl ⟨80, by decide +kernel, by decide, rfl⟩) (by decide +kernel) (by decide +kernel) (fun H locs hI => ?_)
  refine rp_arrI hF hin (lv_at hl 0 rfl) hI 8 (n := 8) (by decide) (by decide) (Nat.le_of_ble_eq_true rfl) (Nat.le_of_ble_eq_true rfl) (Nat.le_of_ble_eq_true rfl) (w := (RX12, TX12, 58)) rfl 45 (index := 74) (pl := 2) (Nat.le_of_ble_eq_true rfl) (Nat.le_of_ble_eq_true rfl) (ra_tb_of (List.mem_of_getElem? (i := 1305) (by decide +kernel)) rfl) rfl (by decide +kernel) (by decide +kernel) (Or.inl ⟨8, by decide +kernel, by decide, rfl⟩) (by decide +kernel) (by decide +kernel) (fun H locs hI => ?_)
  refine rp_arrI hF hin (lv_at hl 0 rfl) hI 320 (n := 320) (by decide) (by decide) (Nat.le_of_ble_eq_true rfl) (Nat.le_of_ble_eq_true rfl) (Nat.le_of_ble_eq_true rfl) (w := (RX12, TX12, 58)) rfl 46 (index := 77) (pl := 3) (Nat.le_of_ble_eq_true rfl) (Nat.le_of_ble_eq_true rfl) (ra_tb_of (List.mem_of_getElem? (i := 1306) (by decide +kernel)) rfl) rfl (by decide +kernel) (by decide +kernel) (Or.inr ⟨320, by decide +kernel, by decide, rfl⟩) (by decide +kernel) (by decide +kernel) (fun H locs hI => ?_)
  refine rp_int hF hin (lv_at hl 0 rfl) hI (n := (-1)) (w := (RX12, TX12, 58)) rfl 48 (index := 80) (pl := 1) (ty := .int) (Nat.le_of_ble_eq_true rfl) (Nat.le_of_ble_eq_true rfl) (ra_tb_of (List.mem_of_getElem? (i := 1308) (by decide +kernel)) rfl) rfl (by decide +kernel) ⟨rfl, rfl⟩ (by decide +kernel) (Or.inl ⟨(-1), by decide +kernel, by decide, rfl⟩) (by decide +kernel) (fun H locs hI => ?_)
  refine rp_arrI hF hin (lv_at hl 0 rfl) hI 40 (n := 40) (by decide) (by decide) (Nat.le_of_ble_eq_true rfl) (Nat.le_of_ble_eq_true rfl) (Nat.le_of_ble_eq_true rfl) (w := (RX12, TX12, 58)) rfl 49 (index := 83) (pl := 2) (Nat.le_of_ble_eq_true rfl) (Nat.le_of_ble_eq_true rfl) (ra_tb_of (List.mem_of_getElem? (i := 1309) (by decide +kernel)) rfl) rfl (by decide +kernel) (by decide +kernel) (Or.inl ⟨40, by decide +kernel, by decide, rfl⟩) (by decide +kernel) (by decide +kernel) (fun H locs hI => ?_)
  refine rp_arrI hF hin (lv_at hl 0 rfl) hI 40 (n := 40) (by decide) (by decide) (Nat.le_of_ble_eq_true rfl) (Nat.le_of_ble_eq_true rfl) (Nat.le_of_ble_eq_true rfl) (w := (RX12, TX12, 58)) rfl 50 (index := 86) (pl := 2) (Nat.le_of_ble_eq_true rfl) (Nat.le_of_ble_eq_true rfl) (ra_tb_of (List.mem_of_getElem? (i := 1310) (by decide +kernel)) rfl) rfl (by decide +kernel) (by decide +kernel) (Or.inl ⟨40, by decide +kernel, by decide, rfl⟩) (by decide +kernel) (by decide +kernel) (fun H locs hI => ?_)
  refine rp_arrI hF hin (lv_at hl 0 rfl) hI 40 (n := 40) (by decide) (by decide) (Nat.le_of_ble_eq_true rfl) (Nat.le_of_ble_eq_true rfl) (Nat.le_of_ble_eq_true rfl) (w := (RX12, TX12, 58)) rfl 51 (index := 89) (pl := 2) (Nat.le_of_ble_eq_true rfl) (Nat.le_of_ble_eq_true rfl) (ra_tb_of (List.mem_of_getElem? (i := 1311) (by decide +kernel)) rfl) rfl (by decide +kernel) (by decide +kernel) (Or.inl ⟨40, by decide +kernel, by decide, rfl⟩) (by decide +kernel) (by decide +kernel) (fun H locs hI => ?_)
  refine rp_arrZ hF hin (lv_at hl 0 rfl) hI 40 (n := 40) (by decide) (by decide) (Nat.le_of_ble_eq_true rfl) (Nat.le_of_ble_eq_true rfl) (Nat.le_of_ble_eq_true rfl) (w := (RX12, TX12, 58)) rfl 52 (index := 92) (pl := 2) (Nat.le_of_ble_eq_true rfl) (Nat.le_of_ble_eq_true rfl) (ra_tb_of (List.mem_of_getElem? (i := 1312) (by decide +kernel)) rfl) rfl (by decide +kernel) (by decide +kernel) (Or.inl ⟨40, by decide +kernel, by decide, rfl⟩) (by decide +kernel) (by decide +kernel) (fun H locs hI => ?_)
  refine rp_arrI hF hin (lv_at hl 0 rfl) hI 240 (n := 240) (by decide) (by decide) (Nat.le_of_ble_eq_true rfl) (Nat.le_of_ble_eq_true rfl) (Nat.le_of_ble_eq_true rfl) (w := (RX12, TX12, 58)) rfl 53 (index := 96) (pl := 3) (Nat.le_of_ble_eq_true rfl) (Nat.le_of_ble_eq_true rfl) (ra_tb_of (List.mem_of_getElem? (i := 1313) (by decide +kernel)) rfl) rfl (by decide +kernel) (by decide +kernel) (Or.inr ⟨240, by decide +kernel, by decide, rfl⟩) (by decide +kernel) (by decide +kernel) (fun H locs hI => ?_)
  refine rp_arrI hF hin (lv_at hl 0 rfl) hI 8 (n := 8) (by decide) (by decide) (Nat.le_of_ble_eq_true rfl) (Nat.le_of_ble_eq_true rfl) (Nat.le_of_ble_eq_true rfl) (w := (RX12, TX12, 58)) rfl 54 (index := 99) (pl := 2) (Nat.le_of_ble_eq_true rfl) (Nat.le_of_ble_eq_true rfl) (ra_tb_of (List.mem_of_getElem? (i := 1314) (by decide +kernel)) rfl) rfl (by decide +kernel) (by decide +kernel) (Or.inl ⟨8, by decide +kernel, by decide, rfl⟩) (by decide +kernel) (by decide +kernel) (fun H locs hI => ?_)
  refine rp_arrI hF hin (lv_at hl 0 rfl) hI 8 (n := 8) (by decide) (by decide) (Nat.le_of_ble_eq_true rfl) (Nat.le_of_ble_eq_true rfl) (Nat.le_of_ble_eq_true rfl) (w := (RX12, TX12, 58)) rfl 55 (index := 102) (pl := 2) (Nat.le_of_ble_eq_true rfl) (Nat.le_of_ble_eq_true rfl) (ra_tb_of (List.mem_of_getElem? (i := 1315) (by decide +kernel)) rfl) rfl (by decide +kernel) (by decide +kernel) (Or.inl ⟨8, by decide +kernel, by decide, rfl⟩) (by decide +kernel) (by decide +kernel) (fun H locs hI => ?_)
  refine rp_arrI hF hin (lv_at hl 0 rfl) hI 8 (n := 8) (by decide) (by decide) (Nat.le_of_ble_eq_true rfl) (Nat.le_of_ble_eq_true rfl) (Nat.le_of_ble_eq_true rfl) (w := (RX12, TX12, 58)) rfl 56 (index := 105) (pl := 2) (Nat.le_of_ble_eq_true rfl) (Nat.le_of_ble_eq_true rfl) (ra_tb_of (List.mem_of_getElem? (i := 1316) (by decide +kernel)) rfl) rfl (by decide +kernel) (by decide +kernel) (Or.inl ⟨8, by decide +kernel, by decide, rfl⟩) (by decide +kernel) (by decide +kernel) (fun H locs hI => ?_)
  refine rp_arrI hF hin (lv_at hl 0 rfl) hI 8 (n := 8) (by decide) (by decide) (Nat.le_of_ble_eq_true rfl) (Nat.le_of_ble_eq_true rfl) (Nat.le_of_ble_eq_true rfl) (w := (RX12, TX12, 58)) rfl 57 (index := 108) (pl := 2) (Nat.le_of_ble_eq_true rfl) (Nat.le_of_ble_eq_true rfl) (ra_tb_of (List.mem_of_getElem? (i := 1317) (by decide +kernel)) rfl) rfl (by decide +kernel) (by decide +kernel) (Or.inl ⟨8, by decide +kernel, by decide, rfl⟩) (by decide +kernel) (by decide +kernel) (fun H locs hI => ?_)
  have hml := hF.2.2.1
  have hown := hF.2.2.2.1
  have hts := hF.2.2.2.2.1
  have hK := hF.2.2.2.2.2
  obtain ⟨i1, i2, i3, i4⟩ := hI
  obtain ⟨υ, hD, hmd⟩ := rp_model (g := g) (fun j hj => by have := hg j hj; rw [Nat.zero_add] at this; exact this)
  obtain ⟨n, hn⟩ := ra_D_some.mp hD
  have had : ∀ i, 86 ≤ i → i < 86 + 29 → rp_ad N0 86 114 i = N0 + i := fun i h1 h2 => rp_ad_in ⟨h1, by omega⟩
  have hP : va_P D vwCl (ra_w rp_lay86 (rp_ad N0 86 114) cA (rp_s2 g)) H := rp_toW rp_lay86_dom had (show rp_P D N0 86 (rp_ls (rp_ad N0 86 114) cA (rp_s2 g) 86 29) H from i3)
  have hok : ra_ok (rp_ad N0 86 114) 1 [some (.ref 86)] ls := ⟨hl.1, hl.2.1, fun i v hv _ => by
    match i, hv with
    | 0, hv => cases hv; show ls[0]? = some (.val (.ref (rp_ad N0 86 114 86))); rw [had 86 (by omega) (by omega)]; exact lv_at hl 0 rfl
    | i + 1, hv => cases hv⟩
  refine ra_walk (lay := rp_lay86) (κ := (rp_lay86, none, 99999, rp_mM)) (A0 := fun q : Nat => N0 + 86 ≤ q) (H0 := H) (rp_ad_inj (by decide)) (rp_ad_A (by decide)) rfl rp_lay86_in ⟨hx, hb, hml, hown, hts, rp_mM_ok⟩ hK hN ⟨Nat.le_of_ble_eq_true rfl, Nat.le_of_ble_eq_true rfl⟩ ⟨Nat.le_of_ble_eq_true rfl, Nat.le_of_ble_eq_true rfl⟩ (fun xs h => by cases h) (.inl none) υ ?_ (fun lo' st' h => by cases h) n (fun k _ => ra_met rp_lay86_in (rp_ad_inj (by decide)) k) 629 [some (.ref 86)] [] (rp_s2 g) H _ ls hn hP ⟨Nat.le_refl _, fun _ _ _ => rfl, i4.2.2⟩ hok
  intro v hv i H' locs' pc' ls' hP' hS' hd hri
  cases hv
  obtain ⟨rfl, -⟩ := hri
  refine rp_sz (fun hz => ?_)
  have hz1 := hS'.1
  refine rp_ret hF hr hlocks (L := rp_ls (rp_ad N0 86 114) cA υ 86 29) ⟨?_, ?_, rp_ofW (by decide) rp_lay86_all had hP', ⟨Nat.le_trans i4.1 hz1, fun q h1 h2 => (hS'.2.1 q (Nat.lt_of_lt_of_le h1 i4.1) h2).trans (i4.2.1 q h1 h2), hS'.2.2⟩⟩ ⟨υ, hmd, rfl⟩ hd
  · rw [rp_ls_len]
    have : H.size = N0 + 86 + 29 := i1
    omega
  · omega
