-- ===== constructors that call others, the text of the words, the model's (by gen94.py) =====
def rp_ls (ad : Nat → Nat) (cA : Nat → ClassId) (σ : ra_S) (r n : Nat) : List va_E := (List.range n).map (fun k => ra_ce ad cA σ (r + k) ((ra_lay (r + k)).getD (.inl (0, 0))))
theorem rp_ls_len (ad : Nat → Nat) (cA : Nat → ClassId) (σ : ra_S) (r n : Nat) : (rp_ls ad cA σ r n).length = n := by unfold rp_ls; rw [List.length_map, List.length_range]
theorem rp_ls_at {ad : Nat → Nat} {cA : Nat → ClassId} {σ : ra_S} {r n k : Nat} (hk : k < n) : (rp_ls ad cA σ r n)[k]? = some (ra_ce ad cA σ (r + k) ((ra_lay (r + k)).getD (.inl (0, 0)))) := by
  unfold rp_ls
  rw [List.getElem?_map, List.getElem?_range hk]
  rfl
/-- from the list of new cells to the world of a store, and back -/
theorem rp_toW {lay : Nat → Option ra_H} {D : va_G} {ad : Nat → Nat} {cA : Nat → ClassId} {σ : ra_S} {N0 r n : Nat} {H : Heap} (hd : ∀ i sh, lay i = some sh → r ≤ i ∧ i < r + n ∧ ra_lay i = some sh) (ha : ∀ i, r ≤ i → i < r + n → ad i = N0 + i) (h : rp_P D N0 r (rp_ls ad cA σ r n) H) : va_P D vwCl (ra_w lay ad cA σ) H := by
  intro k q hk
  obtain ⟨i, hi, h1⟩ := List.mem_filterMap.mp (List.mem_of_getElem? hk)
  unfold ra_wg at h1
  cases hl : lay i with
  | none => rw [hl] at h1; cases h1
  | some sh =>
    rw [hl] at h1
    injection h1 with h1
    subst h1
    obtain ⟨d1, d2, d3⟩ := hd i sh hl
    have := h (i - r) _ (rp_ls_at (by omega))
    rw [show r + (i - r) = i by omega, d3, show N0 + r + (i - r) = ad i by rw [ha i d1 d2]; omega] at this
    exact this
theorem rp_ofW {lay : Nat → Option ra_H} {D : va_G} {ad : Nat → Nat} {cA : Nat → ClassId} {σ : ra_S} {N0 r n : Nat} {H : Heap} (hn : r + n ≤ ra_nc) (hd : ∀ i, r ≤ i → i < r + n → ∃ sh, lay i = some sh ∧ ra_lay i = some sh) (ha : ∀ i, r ≤ i → i < r + n → ad i = N0 + i) (h : va_P D vwCl (ra_w lay ad cA σ) H) : rp_P D N0 r (rp_ls ad cA σ r n) H := by
  intro k x hx
  have hk : k < n := by
    have := (List.getElem?_eq_some_iff.mp hx).1
    rw [rp_ls_len] at this
    exact this
  rw [rp_ls_at hk] at hx
  injection hx with hx
  subst hx
  obtain ⟨sh, h1, h2⟩ := hd (r + k) (by omega) (by omega)
  obtain ⟨q0, w1, -⟩ := ra_w_cell (lay := lay) (ad := ad) (cA := cA) (i := r + k) (by omega) h1 σ
  have := h q0 _ w1
  rw [h2, show N0 + r + k = ad (r + k) by rw [ha (r + k) (by omega) (by omega)]; omega]
  exact this
theorem rp_lay_all : ∀ i, i < 116 → ∃ sh, ra_lay i = some sh := by
  intro i hi
  unfold ra_lay
  have : Nat.ble 116 i = false := by
    cases hb : Nat.ble 116 i with
    | false => rfl
    | true => exact absurd (Nat.le_of_ble_eq_true hb) (by omega)
  rw [this]
  exact ⟨_, rfl⟩
theorem rp_ble2 {a b i : Nat} (h1 : a ≤ i) (h2 : i ≤ b) : (Nat.ble a i && Nat.ble i b) = true := by
  rw [Bool.and_eq_true]
  exact ⟨Nat.ble_eq_true_of_le h1, Nat.ble_eq_true_of_le h2⟩
theorem rp_lay2_dom : ∀ i sh, rp_lay2 i = some sh → 2 ≤ i ∧ i < 2 + 3 ∧ ra_lay i = some sh := by
  intro i sh e
  refine ⟨?_, ?_, rp_lay2_in i sh e⟩
  all_goals
    unfold rp_lay2 at e
    cases hb : (Nat.ble 2 i && Nat.ble i 4) with
    | false => rw [hb] at e; cases e
    | true =>
      rw [Bool.and_eq_true] at hb
      have := Nat.le_of_ble_eq_true hb.1
      have := Nat.le_of_ble_eq_true hb.2
      omega
theorem rp_lay86_dom : ∀ i sh, rp_lay86 i = some sh → 86 ≤ i ∧ i < 86 + 29 ∧ ra_lay i = some sh := by
  intro i sh e
  refine ⟨?_, ?_, rp_lay86_in i sh e⟩
  all_goals
    unfold rp_lay86 at e
    cases hb : (Nat.ble 86 i && Nat.ble i 114) with
    | false => rw [hb] at e; cases e
    | true =>
      rw [Bool.and_eq_true] at hb
      have := Nat.le_of_ble_eq_true hb.1
      have := Nat.le_of_ble_eq_true hb.2
      omega
theorem rp_lay2_all : ∀ i, 2 ≤ i → i < 2 + 3 → ∃ sh, rp_lay2 i = some sh ∧ ra_lay i = some sh := by
  intro i h1 h2
  obtain ⟨sh, h⟩ := rp_lay_all i (by omega)
  exact ⟨sh, by unfold rp_lay2; rw [rp_ble2 h1 (by omega)]; exact h, h⟩
theorem rp_lay86_all : ∀ i, 86 ≤ i → i < 86 + 29 → ∃ sh, rp_lay86 i = some sh ∧ ra_lay i = some sh := by
  intro i h1 h2
  obtain ⟨sh, h⟩ := rp_lay_all i (by omega)
  exact ⟨sh, by unfold rp_lay86; rw [rp_ble2 h1 (by omega)]; exact h, h⟩
/-- the addresses of the cells a to b; the others lie far off -/
def rp_ad (N0 a b : Nat) (i : Nat) : Nat := if a ≤ i ∧ i ≤ b then N0 + i else N0 + 1000 + i
theorem rp_ad_inj {N0 a b : Nat} (hb : b < 1000) : ∀ i j, i < ra_nc → j < ra_nc → rp_ad N0 a b i = rp_ad N0 a b j → i = j := by
  intro i j hi hj h
  have hi : i < 116 := hi
  have hj : j < 116 := hj
  unfold rp_ad at h
  split at h <;> split at h <;> omega
theorem rp_ad_A {N0 a b : Nat} (ha : a ≤ 1000) (q : Nat) (h : ra_A (rp_ad N0 a b) q) : N0 + a ≤ q := by
  obtain ⟨i, hi, rfl⟩ := h
  unfold rp_ad
  split <;> omega
theorem rp_ad_in {N0 a b i : Nat} (h : a ≤ i ∧ i ≤ b) : rp_ad N0 a b i = N0 + i := by unfold rp_ad; rw [if_pos h]
section RPC
variable {p : Program} {l : Launch} {e : Env} {R : Room} {s : State} {m : MethodId} {args : Array Value} {below : List Frame} {meth : Method} {c : Code} {H : Heap} {locs : List Loc} {cells slots : Nat} {Q : State → Prop}
variable {own : String} {cc : ByteArray} {nL : Nat} {D : va_G} {cA : Nat → ClassId} {N0 r sk sv pc : Nat} {L : List va_E} {ls : Array Slot} {rest : List Value}
theorem rp_get (hF : rp_Fx p s m args c own cc nL D cA) {ci : Nat} {fs : List Value} {T0 : List va_E} (hI : rp_I D N0 r s (.inr (ci, fs) :: T0) H locs cells) {w : vw_C} (hc : vwCl[ci]? = some w) (k : Nat) {index : Nat} {v : Value} (hk : k < w.2.2) (hlk : Cond.fieldLink own index (w.2.1 k).1 (w.2.1 k).2.1 (w.2.1 k).2.2.1 ∈ ra_tb) (hv : fs[k]? = some v) (hdg : decode cc pc = .ok (.getfield index, 3))
    (kk : W p l e R s m args below meth c H locs cells slots Q (F0 m (pc + 3) ls (v :: rest))) : W p l e R s m args below meth c H locs cells slots Q (F0 m pc ls (.ref (N0 + r) :: rest)) := by
  obtain ⟨hx, hb, -, hown, hts, hK⟩ := hF
  obtain ⟨i1, i2, i3, i4⟩ := hI
  obtain ⟨C, T, N⟩ := w
  have hP : va_P D vwCl [(N0 + r, .inr (ci, fs))] H := by
    intro j q hj
    cases j with
    | zero => cases hj; exact i3 0 _ rfl
    | succ j => cases hj
  exact va_get hx hb hts (ra_lays ci _ hc) hown hK hP 0 rfl hc k hk (hts _ hlk) (fun _ h => h) hv hdg kk
theorem rp_after {H1 : Heap} {locs1 : List Loc} {g : JFrame} (hI : rp_I D N0 r s L H locs cells) (hz : H.size ≤ H1.size) (hk : ∀ q : Nat, q < H.size → H1[q]? = H[q]?) (hS : va_S (fun q : Nat => N0 + r ≤ q) s.heap H1 locs1) (k : rp_I D N0 r s L H1 locs1 cells → W p l e R s m args below meth c H1 locs1 cells slots Q g) : W p l e R s m args below meth c H1 locs1 cells slots Q g := by
  refine rp_sz (fun hz2 => k ?_)
  obtain ⟨i1, i2, i3, i4⟩ := hI
  have hs : H1.size = H.size := by omega
  refine ⟨by omega, by omega, fun j x hj => (i3 j x hj).kept (hk _ ?_), hS⟩
  have := (List.getElem?_eq_some_iff.mp hj).1
  show N0 + r + j < H.size
  omega
end RPC
def rp_bf (k : Nat) : Nat → Int32 := fun j => if j < k then rp_byt.getD j 0 &&& 255 else 0
theorem rp_bf_succ (k : Nat) : upd (rp_bf k) k (rp_byt.getD k 0 &&& 255) = rp_bf (k + 1) := by
  funext j
  unfold upd rp_bf
  by_cases h : j = k
  · rw [if_pos h, if_pos (by omega), h]
  · rw [if_neg h]
    by_cases h2 : j < k
    · rw [if_pos h2, if_pos (by omega)]
    · rw [if_neg h2, if_neg (by omega)]
theorem rp_bf_0 : rp_bf 0 = fun _ => 0 := by
  funext j
  unfold rp_bf
  rw [if_neg (Nat.not_lt_zero j)]
def rp_tw (cA : Nat → ClassId) (N0 k : Nat) : List va_E := [.inr (10, [.ref (N0 + 2 + 1), .ref (N0 + 2 + 2), .int 0, .int (nI k), .int 0, .int 0, .int 0, .int 0]), .inl (cA 0, 800, .inl (rp_bf k)), .inl (cA 0, 11, .inl (fun _ => 0))]
def rp_s1 : ra_S := (fun i => bif Nat.beq i 3 then rp_bf 63 else (bif Nat.beq i 2 then (fun k => bif Nat.beq k 3 then nI 63 else 0) else fun _ => 0), fun _ _ => 0)
def rp_tp (σ : ra_S) : Prop := σ.1 2 2 = 0 ∧ ∀ i, i < 11 → σ.1 4 i = rz_words.getD i 0
theorem rp_s1_Tc : rp_Tc rp_t 63 (rp_wp.getD 0 0) rp_s1 := by
  refine ⟨rfl, by decide, rfl, by decide, fun i hi => ⟨?_, (rp_t_nI ⟨i, hi⟩).2⟩, trivial⟩
  show rp_bf 63 i = _
  unfold rp_bf
  rw [if_pos hi]
  exact (rp_t_nI ⟨i, hi⟩).1
theorem rp_X10_len {cA : Nat → ClassId} {N0 : Nat} : ∀ L : List va_E, (∃ σ : ra_S, rp_tp σ ∧ L = rp_ls (rp_ad N0 2 4) cA σ 2 3) → L.length = 3 := fun L h => by
  obtain ⟨σ, -, rfl⟩ := h
  rw [rp_ls_len]
set_option maxHeartbeats 8000000 in
theorem rp_X10 (l : Launch) (D : va_G) (cA : Nat → ClassId) (N0 sk sv : Nat) : rp_M l yX10_init cX10_init 2 { frames := 4, cells := 2, slots := 811, locals := 85 } D cA N0 2 sk sv (.inr (10, [.null, .null, .int 0, .int 0, .int 0, .int 0, .int 0, .int 0])) (fun L => ∃ σ : ra_S, rp_tp σ ∧ L = rp_ls (rp_ad N0 2 4) cA σ 2 3) 2 811 := by
  refine rp_start (by decide +kernel) (by decide) rfl ?_
  intro p e s m args below meth c ls hF hN hZ hin hr hlocks hI hsz hl
  refine rp_obj hF (idx := 3) (lv_at hl 0 rfl) hl.1 (ra_tb_of (List.mem_of_getElem? (i := 45) (by decide +kernel)) rfl) (by decide +kernel) (by decide +kernel) ⟨(Nat.le_of_ble_eq_true rfl), (Nat.le_of_ble_eq_true rfl)⟩ ?_
  refine rp_arrI hF hin (lv_at hl 0 rfl) hI 800 (n := 800) (by decide) (by decide) (Nat.le_of_ble_eq_true rfl) (Nat.le_of_ble_eq_true rfl) (Nat.le_of_ble_eq_true rfl) (w := (RX10, TX10, 8)) rfl 0 (index := 9) (pl := 3) (Nat.le_of_ble_eq_true rfl) (Nat.le_of_ble_eq_true rfl) (ra_tb_of (List.mem_of_getElem? (i := 99) (by decide +kernel)) rfl) rfl (by decide +kernel) (by decide +kernel) (Or.inr ⟨800, by decide +kernel, by decide, rfl⟩) (by decide +kernel) (by decide +kernel) (fun H locs hI => ?_)
  refine rp_arrI hF hin (lv_at hl 0 rfl) hI 11 (n := 11) (by decide) (by decide) (Nat.le_of_ble_eq_true rfl) (Nat.le_of_ble_eq_true rfl) (Nat.le_of_ble_eq_true rfl) (w := (RX10, TX10, 8)) rfl 1 (index := 15) (pl := 2) (Nat.le_of_ble_eq_true rfl) (Nat.le_of_ble_eq_true rfl) (ra_tb_of (List.mem_of_getElem? (i := 100) (by decide +kernel)) rfl) rfl (by decide +kernel) (by decide +kernel) (Or.inl ⟨11, by decide +kernel, by decide, rfl⟩) (by decide +kernel) (by decide +kernel) (fun H locs hI => ?_)
  have hx := hF.1
  have hb := hF.2.1
  have hml := hF.2.2.1
  have hown := hF.2.2.2.1
  have hts := hF.2.2.2.2.1
  have hK := hF.2.2.2.2.2
  refine lv_iconst (v := nI 0) hx hb (by decide +kernel : decode cX10_init 21 = .ok (.iconst 0, 1)) (by decide) ?_
  refine lv_istore_n (lv' := [(1, .int (nI 0)), (0, .ref (N0 + 2))]) hx hb (by decide +kernel : decode cX10_init 22 = .ok (.istore_n 1, 1)) rfl hl (by decide) rfl (fun ls hl => ?_)
  have loop : ∀ (d k : Nat) (H : Heap) (locs : List Loc) (ls : Array Slot), k + d = 63 → rp_I D N0 2 s (rp_tw cA N0 k) H locs 2 → lv_has ls 2 [(1, .int (nI k)), (0, .ref (N0 + 2))] →
      (∀ (H : Heap) (locs : List Loc) (ls : Array Slot), rp_I D N0 2 s (rp_tw cA N0 63) H locs 2 → lv_has ls 2 [(1, .int (nI 63)), (0, .ref (N0 + 2))] → W p l e { frames := 4, cells := 2, slots := 811, locals := 85 } s m args below meth c H locs 2 811 (MQ below (rp_Q D N0 2 (fun L => ∃ σ : ra_S, rp_tp σ ∧ L = rp_ls (rp_ad N0 2 4) cA σ 2 3)) args s 2 811 (fun q : Nat => N0 + 2 ≤ q)) (F0 m 64 ls [])) →
      W p l e { frames := 4, cells := 2, slots := 811, locals := 85 } s m args below meth c H locs 2 811 (MQ below (rp_Q D N0 2 (fun L => ∃ σ : ra_S, rp_tp σ ∧ L = rp_ls (rp_ad N0 2 4) cA σ 2 3)) args s 2 811 (fun q : Nat => N0 + 2 ≤ q)) (F0 m 23 ls []) := by
    intro d
    induction d with
    | zero =>
      intro k H locs ls hk hI hl kk
      have hk : k = 63 := by omega
      subst hk
      refine lv_iload_n hx hb (by decide +kernel : decode cX10_init 23 = .ok (.iload_n 1, 1)) rfl (lv_at hl 0 rfl) ?_
      refine va_ldcS hx hb hown hZ.1 (by decide +kernel) ?_
      refine rp_runV (index := 20) (A0 := fun q : Nat => N0 + 2 ≤ q) (as := []) (rest := [.int (nI 63)]) (n := 0) hx hb hml hown hts hZ hI.2.2.2 (fun q h => by omega) (rp_s_len l N0 sk sv) rfl (ra_tb_of (List.mem_of_getElem? (i := 50) (by decide +kernel)) rfl) (ra_tb_of (List.mem_of_getElem? (i := 4) (by decide +kernel)) rfl) (ra_tb_of (List.mem_of_getElem? (i := 47) (by decide +kernel)) rfl) (ra_tb_of (List.mem_of_getElem? (i := 48) (by decide +kernel)) rfl) (ra_tb_of (List.mem_of_getElem? (i := 49) (by decide +kernel)) rfl) (by decide +kernel) ⟨rfl, rfl⟩ ⟨Nat.le_of_ble_eq_true rfl, Nat.le_of_ble_eq_true rfl⟩ hl.1 rfl (Nat.le_of_ble_eq_true rfl) (by decide +kernel) ⟨Nat.le_refl _, Nat.le_refl _⟩ (fun H1 locs1 hz hk hS => ?_)
      refine rp_after hI hz hk hS (fun hI => ?_)
      refine lv_icmp_ge (tgt := 64) hx hb (by decide +kernel : decode cX10_init 29 = .ok (.if_icmp .ge 35, 3)) rfl (fun _ => kk _ _ _ hI hl) (fun z => absurd (by decide) z)
    | succ d ih =>
      intro k H locs ls hk hI hl kk
      refine lv_iload_n hx hb (by decide +kernel : decode cX10_init 23 = .ok (.iload_n 1, 1)) rfl (lv_at hl 0 rfl) ?_
      refine va_ldcS hx hb hown hZ.1 (by decide +kernel) ?_
      refine rp_runV (index := 20) (A0 := fun q : Nat => N0 + 2 ≤ q) (as := []) (rest := [.int (nI k)]) (n := 0) hx hb hml hown hts hZ hI.2.2.2 (fun q h => by omega) (rp_s_len l N0 sk sv) rfl (ra_tb_of (List.mem_of_getElem? (i := 50) (by decide +kernel)) rfl) (ra_tb_of (List.mem_of_getElem? (i := 4) (by decide +kernel)) rfl) (ra_tb_of (List.mem_of_getElem? (i := 47) (by decide +kernel)) rfl) (ra_tb_of (List.mem_of_getElem? (i := 48) (by decide +kernel)) rfl) (ra_tb_of (List.mem_of_getElem? (i := 49) (by decide +kernel)) rfl) (by decide +kernel) ⟨rfl, rfl⟩ ⟨Nat.le_of_ble_eq_true rfl, Nat.le_of_ble_eq_true rfl⟩ hl.1 rfl (Nat.le_of_ble_eq_true rfl) (by decide +kernel) ⟨Nat.le_refl _, Nat.le_refl _⟩ (fun H1 locs1 hz hk1 hS => ?_)
      refine rp_after hI hz hk1 hS (fun hI => ?_)
      refine lv_icmp_ge (tgt := 64) hx hb (by decide +kernel : decode cX10_init 29 = .ok (.if_icmp .ge 35, 3)) rfl (fun z => absurd z (Int32.not_le.mpr (nI_lt (a := k) (b := 63) (by omega) (by omega)))) (fun _ => ?_)
      refine lv_iload_n hx hb (by decide +kernel : decode cX10_init 32 = .ok (.iload_n 1, 1)) rfl (lv_at hl 0 rfl) ?_
      refine lv_sipush (v := 800) hx hb (by decide +kernel : decode cX10_init 33 = .ok (.sipush 800, 3)) (by decide) ?_
      refine lv_icmp_ge (tgt := 64) hx hb (by decide +kernel : decode cX10_init 36 = .ok (.if_icmp .ge 28, 3)) rfl (fun z => absurd z (Int32.not_le.mpr (nI_lt (a := k) (b := 800) (by omega) (by omega)))) (fun _ => ?_)
      refine lv_aload_n hx hb (by decide +kernel : decode cX10_init 39 = .ok (.aload_n 0, 1)) rfl (lv_at hl 1 rfl) ?_
      refine rp_get (index := 9) hF hI (w := (RX10, TX10, 8)) rfl 0 (by decide) (ra_tb_of (List.mem_of_getElem? (i := 99) (by decide +kernel)) rfl) rfl (by decide +kernel) ?_
      refine lv_iload_n hx hb (by decide +kernel : decode cX10_init 43 = .ok (.iload_n 1, 1)) rfl (lv_at hl 0 rfl) ?_
      refine va_ldcS hx hb hown hZ.1 (by decide +kernel) ?_
      refine lv_iload_n hx hb (by decide +kernel : decode cX10_init 46 = .ok (.iload_n 1, 1)) rfl (lv_at hl 0 rfl) ?_
      refine rp_runV (index := 26) (A0 := fun q : Nat => N0 + 2 ≤ q) (as := [.int (nI k)]) (rest := [.int (nI k), .ref (N0 + 2 + 1)]) (n := 1) hx hb hml hown hts hZ hI.2.2.2 (fun q h => by omega) (rp_s_char l N0 sk sv (k := k) (by omega)) rfl (ra_tb_of (List.mem_of_getElem? (i := 60) (by decide +kernel)) rfl) (ra_tb_of (List.mem_of_getElem? (i := 4) (by decide +kernel)) rfl) (ra_tb_of (List.mem_of_getElem? (i := 57) (by decide +kernel)) rfl) (ra_tb_of (List.mem_of_getElem? (i := 58) (by decide +kernel)) rfl) (ra_tb_of (List.mem_of_getElem? (i := 59) (by decide +kernel)) rfl) (by decide +kernel) ⟨rfl, rfl⟩ ⟨Nat.le_of_ble_eq_true rfl, Nat.le_of_ble_eq_true rfl⟩ hl.1 rfl (Nat.le_of_ble_eq_true rfl) (by decide +kernel) ⟨Nat.le_refl _, Nat.le_refl _⟩ (fun H2 locs2 hz hk2 hS => ?_)
      refine rp_after hI hz hk2 hS (fun hI => ?_)
      refine rp_iast hF hI 1 (n := 800) (f := rp_bf k) rfl (vp_in_nI (show k < 800 by omega) (by omega)) (by decide +kernel) (fun H3 locs3 hI => ?_)
      rw [nI_clamp (show k < 2 ^ 31 by omega), rp_bf_succ] at hI
      have hI : rp_I D N0 2 s (.inr (10, [.ref (N0 + 2 + 1), .ref (N0 + 2 + 2), .int 0, .int (nI k), .int 0, .int 0, .int 0, .int 0]) :: [.inl (cA 0, 800, .inl (rp_bf (k + 1))), .inl (cA 0, 11, .inl (fun _ => 0))]) H3 locs3 2 := hI
      refine lv_aload_n hx hb (by decide +kernel : decode cX10_init 51 = .ok (.aload_n 0, 1)) rfl (lv_at hl 1 rfl) ?_
      refine lv_iload_n hx hb (by decide +kernel : decode cX10_init 52 = .ok (.iload_n 1, 1)) rfl (lv_at hl 0 rfl) ?_
      refine lv_iconst (v := 1) hx hb (by decide +kernel : decode cX10_init 53 = .ok (.iconst 1, 1)) (by decide) ?_
      refine lv_iadd hx hb (by decide +kernel) ?_
      rw [nI_1]
      refine rp_put hF hin hI (q := (RX10, TX10, 8)) rfl (k := 3) (ty := .int) (index := 30) (by decide) (Nat.le_of_ble_eq_true rfl) (ra_tb_of (List.mem_of_getElem? (i := 103) (by decide +kernel)) rfl) rfl (by decide +kernel) rfl rfl (by decide +kernel) (fun H4 locs4 hI => ?_)
      refine lv_iinc (lv' := [(1, .int (nI (k + 1))), (0, .ref (N0 + 2))]) (v := nI (k + 1)) (k := 0) hx hb (by decide +kernel : decode cX10_init 58 = .ok (.iinc 1 1, 3)) hl rfl (nI_1 k) (by decide) rfl (fun ls hl => ?_)
      refine lv_goto (tgt := 23) hx hb (by decide +kernel : decode cX10_init 61 = .ok (.goto (-38), 3)) rfl ?_
      exact ih (k + 1) H4 locs4 ls (by omega) hI hl kk
  refine loop 63 0 _ _ ls (by omega) (by unfold rp_tw; rw [rp_bf_0]; exact hI) hl (fun H locs ls hI hl => ?_)
  obtain ⟨i1, i2, i3, i4⟩ := hI
  obtain ⟨υ, e1, u1, u2⟩ := rp_words 11 0 rp_s1 (by omega) rp_s1_Tc (fun i hi => absurd hi (Nat.not_lt_zero i))
  have hD : ra_D (rp_lay2, none, 99999, rp_mT) 64 [some (.ref 2), none] [] rp_s1 = some (.inl none, υ) := by rw [p_T_64]; exact e1
  obtain ⟨n, hn⟩ := ra_D_some.mp hD
  have had : ∀ i, 2 ≤ i → i < 2 + 3 → rp_ad N0 2 4 i = N0 + i := fun i h1 h2 => rp_ad_in ⟨h1, by omega⟩
  have hP : va_P D vwCl (ra_w rp_lay2 (rp_ad N0 2 4) cA rp_s1) H := rp_toW rp_lay2_dom had (show rp_P D N0 2 (rp_ls (rp_ad N0 2 4) cA rp_s1 2 3) H from i3)
  have hok : ra_ok (rp_ad N0 2 4) 2 [some (.ref 2), none] ls := ⟨hl.1, hl.2.1, fun i v hv _ => by
    match i, hv with
    | 0, hv => cases hv; show ls[0]? = some (.val (.ref (rp_ad N0 2 4 2))); rw [had 2 (by omega) (by omega)]; exact lv_at hl 1 rfl
    | 1, hv => cases hv
    | i + 2, hv => cases hv⟩
  refine ra_walk (lay := rp_lay2) (κ := (rp_lay2, none, 99999, rp_mT)) (A0 := fun q : Nat => N0 + 2 ≤ q) (H0 := H) (cells := 2) (slots := 811) (rp_ad_inj (by decide)) (rp_ad_A (by decide)) rfl rp_lay2_in ⟨hx, hb, hml, hown, hts, rp_mT_ok⟩ hK hN ⟨Nat.le_of_ble_eq_true rfl, Nat.le_of_ble_eq_true rfl⟩ ⟨Nat.le_refl _, Nat.le_refl _⟩ (fun xs h => by cases h) (.inl none) υ ?_ (fun lo' st' h => by cases h) n (fun k _ => ra_met rp_lay2_in (rp_ad_inj (by decide)) k) 64 [some (.ref 2), none] [] rp_s1 H locs ls hn hP ⟨Nat.le_refl _, fun _ _ _ => rfl, i4.2.2⟩ hok
  intro v hv i H' locs' pc' ls' hP' hS' hd hri
  cases hv
  obtain ⟨rfl, -⟩ := hri
  refine rp_sz (fun hz => ?_)
  have hz1 := hS'.1
  refine rp_ret hF hr hlocks (L := rp_ls (rp_ad N0 2 4) cA υ 2 3) ⟨?_, ?_, rp_ofW (by decide) rp_lay2_all had hP', ⟨Nat.le_trans i4.1 hz1, fun q h1 h2 => (hS'.2.1 q (Nat.lt_of_lt_of_le h1 i4.1) h2).trans (i4.2.1 q h1 h2), hS'.2.2⟩⟩ ⟨υ, ⟨u1, u2⟩, rfl⟩ hd
  · rw [rp_ls_len]
    have : H.size = N0 + 2 + 3 := i1
    omega
  · omega
