-- ===== fields, shapes, constant pools: what the walk needs of the tables; written by wip/whole/gen08.py =====
theorem ra_la0 : (List.range 14).all (fun k => ra_isAt (([539, 541, 543, 545, 547, 549, 551, 553, 555, 557, 559, 561, 563, 565] : List Nat).getD k 0) (u_lay RX0 TX0 k)) = true := by decide +kernel
theorem ra_la1 : (List.range 7).all (fun k => ra_isAt (([493, 495, 497, 499, 501, 503, 505] : List Nat).getD k 0) (u_lay RX1 TX1 k)) = true := by decide +kernel
theorem ra_la2 : (List.range 5).all (fun k => ra_isAt (([316, 318, 320, 322, 324] : List Nat).getD k 0) (u_lay RX2 TX2 k)) = true := by decide +kernel
theorem ra_la3 : (List.range 5).all (fun k => ra_isAt (([249, 251, 253, 255, 257] : List Nat).getD k 0) (u_lay RX3 TX3 k)) = true := by decide +kernel
theorem ra_la4 : (List.range 8).all (fun k => ra_isAt (([272, 274, 276, 278, 280, 282, 284, 286] : List Nat).getD k 0) (u_lay RX4 TX4 k)) = true := by decide +kernel
theorem ra_la5 : (List.range 6).all (fun k => ra_isAt (([581, 583, 585, 587, 589, 591] : List Nat).getD k 0) (u_lay RX5 TX5 k)) = true := by decide +kernel
theorem ra_la6 : (List.range 9).all (fun k => ra_isAt (([365, 367, 369, 371, 373, 375, 377, 379, 381] : List Nat).getD k 0) (u_lay RX6 TX6 k)) = true := by decide +kernel
theorem ra_la7 : (List.range 11).all (fun k => ra_isAt (([414, 416, 418, 420, 422, 424, 426, 428, 430, 432, 434] : List Nat).getD k 0) (u_lay RX7 TX7 k)) = true := by decide +kernel
theorem ra_la8 : (List.range 4).all (fun k => ra_isAt (([606, 608, 610, 612] : List Nat).getD k 0) (u_lay RX8 TX8 k)) = true := by decide +kernel
theorem ra_la9 : (List.range 9).all (fun k => ra_isAt (([459, 461, 463, 465, 467, 469, 471, 473, 475] : List Nat).getD k 0) (u_lay RX9 TX9 k)) = true := by decide +kernel
theorem ra_la10 : (List.range 8).all (fun k => ra_isAt (([214, 216, 218, 220, 222, 224, 226, 228] : List Nat).getD k 0) (u_lay RX10 TX10 k)) = true := by decide +kernel
theorem ra_la11 : (List.range 10).all (fun k => ra_isAt (([625, 627, 629, 631, 633, 635, 637, 639, 641, 643] : List Nat).getD k 0) (u_lay RX11 TX11 k)) = true := by decide +kernel
theorem ra_la12 : (List.range 58).all (fun k => ra_isAt (([1427, 1429, 1431, 1433, 1435, 1437, 1439, 1441, 1443, 1445, 1447, 1449, 1451, 1453, 1455, 1457, 1459, 1461, 1463, 1465, 1467, 1469, 1471, 1473, 1475, 1477, 1479, 1481, 1483, 1485, 1487, 1489, 1491, 1493, 1495, 1497, 1499, 1501, 1503, 1505, 1507, 1509, 1511, 1513, 1515, 1517, 1519, 1521, 1523, 1525, 1527, 1529, 1531, 1533, 1535, 1537, 1539, 1541] : List Nat).getD k 0) (u_lay RX12 TX12 k)) = true := by decide +kernel
theorem ra_la_of {C : String} {T : u_T} {N : Nat} {ps : List Nat} (h : (List.range N).all (fun k => ra_isAt (ps.getD k 0) (u_lay C T k)) = true) : ∀ w ∈ u_ws C T N, w ∈ ra_tb := by
  intro w hw
  obtain ⟨k, hk, rfl⟩ := List.mem_map.mp hw
  exact ra_isAt_ok (List.all_eq_true.mp h k hk)
theorem ra_lays : ∀ (ci : Nat) (q : vw_C), vwCl[ci]? = some q → ∀ w ∈ u_ws q.1 q.2.1 q.2.2, w ∈ ra_tb := by
  intro ci q h
  match ci, h with
  | 0, h => cases h; exact ra_la_of ra_la0
  | 1, h => cases h; exact ra_la_of ra_la1
  | 2, h => cases h; exact ra_la_of ra_la2
  | 3, h => cases h; exact ra_la_of ra_la3
  | 4, h => cases h; exact ra_la_of ra_la4
  | 5, h => cases h; exact ra_la_of ra_la5
  | 6, h => cases h; exact ra_la_of ra_la6
  | 7, h => cases h; exact ra_la_of ra_la7
  | 8, h => cases h; exact ra_la_of ra_la8
  | 9, h => cases h; exact ra_la_of ra_la9
  | 10, h => cases h; exact ra_la_of ra_la10
  | 11, h => cases h; exact ra_la_of ra_la11
  | 12, h => cases h; exact ra_la_of ra_la12
  | n + 13, h => cases h
theorem ra_tys : ∀ (ci : Nat) (q : vw_C), vwCl[ci]? = some q → ∃ ty0 : Nat → FieldType, (∀ k, k < q.2.2 → parseFieldDescriptor (q.2.1 k).2.2.1 = some (ty0 k)) ∧ ∀ a, a < q.2.2 → ∀ b, b < q.2.2 → a ≠ b → (q.2.1 a).2.1 ≠ (q.2.1 b).2.1 := by
  intro ci q h
  match ci, h with
  | 0, h => cases h; exact ⟨tyX0, tyX0_ok, nmX0⟩
  | 1, h => cases h; exact ⟨tyX1, tyX1_ok, nmX1⟩
  | 2, h => cases h; exact ⟨tyX2, tyX2_ok, nmX2⟩
  | 3, h => cases h; exact ⟨tyX3, tyX3_ok, nmX3⟩
  | 4, h => cases h; exact ⟨tyX4, tyX4_ok, nmX4⟩
  | 5, h => cases h; exact ⟨tyX5, tyX5_ok, nmX5⟩
  | 6, h => cases h; exact ⟨tyX6, tyX6_ok, nmX6⟩
  | 7, h => cases h; exact ⟨tyX7, tyX7_ok, nmX7⟩
  | 8, h => cases h; exact ⟨tyX8, tyX8_ok, nmX8⟩
  | 9, h => cases h; exact ⟨tyX9, tyX9_ok, nmX9⟩
  | 10, h => cases h; exact ⟨tyX10, tyX10_ok, nmX10⟩
  | 11, h => cases h; exact ⟨tyX11, tyX11_ok, nmX11⟩
  | 12, h => cases h; exact ⟨tyX12, tyX12_ok, nmX12⟩
  | n + 13, h => cases h
theorem ra_cF_all : ∀ c, (ra_cF c).all (fun q => decide (tables_1[q.2.2.2]? = some (ra_fw (ra_cn c) q.1 q.2.1 q.2.2.1)) && decide (q.2.2.1 < ra_nf q.2.1)) = true := by
  intro c
  match c with
  | 0 => exact ra_cF0
  | 1 => exact ra_cF1
  | 2 => exact ra_cF2
  | 3 => exact ra_cF3
  | 4 => exact ra_cF4
  | 5 => exact ra_cF5
  | 6 => exact ra_cF6
  | 7 => exact ra_cF7
  | 8 => exact ra_cF8
  | 9 => exact ra_cF9
  | 10 => exact ra_cF10
  | 11 => exact ra_cF11
  | 12 => exact ra_cF12
  | 13 => exact ra_cF13
  | 14 => exact ra_cF14
  | 15 => exact ra_cF15
  | n + 16 => rfl
theorem ra_cI_all : ∀ c, (ra_cI c).all (fun q => decide (tables_1[q.2.2]? = some (.constant (ra_cn c) q.1 q.2.1))) = true := by
  intro c
  match c with
  | 0 => exact ra_cI0
  | 1 => exact ra_cI1
  | 2 => exact ra_cI2
  | 3 => exact ra_cI3
  | 4 => exact ra_cI4
  | 5 => exact ra_cI5
  | 6 => exact ra_cI6
  | 7 => exact ra_cI7
  | 8 => exact ra_cI8
  | 9 => exact ra_cI9
  | 10 => exact ra_cI10
  | 11 => exact ra_cI11
  | 12 => exact ra_cI12
  | 13 => exact ra_cI13
  | 14 => exact ra_cI14
  | 15 => exact ra_cI15
  | n + 16 => rfl
theorem ra_cJ_all : ∀ c, (ra_cJ c).all (fun q => decide (tables_1[q.2.2]? = some (.constantLong (ra_cn c) q.1 q.2.1))) = true := by
  intro c
  match c with
  | 0 => exact ra_cJ0
  | 1 => exact ra_cJ1
  | 2 => exact ra_cJ2
  | 3 => exact ra_cJ3
  | 4 => exact ra_cJ4
  | 5 => exact ra_cJ5
  | 6 => exact ra_cJ6
  | 7 => exact ra_cJ7
  | 8 => exact ra_cJ8
  | 9 => exact ra_cJ9
  | 10 => exact ra_cJ10
  | 11 => exact ra_cJ11
  | 12 => exact ra_cJ12
  | 13 => exact ra_cJ13
  | 14 => exact ra_cJ14
  | 15 => exact ra_cJ15
  | n + 16 => rfl
theorem ra_cM_all : ∀ c, (ra_cM c).all (fun q => decide (tables_1[q.2.2]? = some (.methodLink (ra_cn c) q.1 (ra_mt q.2.1).2.1))) = true := by
  intro c
  match c with
  | 0 => exact ra_cM0
  | 1 => exact ra_cM1
  | 2 => exact ra_cM2
  | 3 => exact ra_cM3
  | 4 => exact ra_cM4
  | 5 => exact ra_cM5
  | 6 => exact ra_cM6
  | 7 => exact ra_cM7
  | 8 => exact ra_cM8
  | 9 => exact ra_cM9
  | 10 => exact ra_cM10
  | 11 => exact ra_cM11
  | 12 => exact ra_cM12
  | 13 => exact ra_cM13
  | 14 => exact ra_cM14
  | 15 => exact ra_cM15
  | n + 16 => rfl
def ra_shb (ci : Nat) (fks : List (Bool ⊕ Nat)) : Bool := match vwCl[ci]? with
  | some q => decide (fks.length = q.2.2) && (List.range q.2.2).all (fun k => match fks[k]? with
    | some (.inl false) => decide (parseFieldDescriptor (q.2.1 k).2.2.1 = some .int) || (decide (parseFieldDescriptor (q.2.1 k).2.2.1 = some .boolean) && decide (ra_bo ci k = 1))
    | some (.inl true) => decide (parseFieldDescriptor (q.2.1 k).2.2.1 = some .long)
    | some (.inr _) => true
    | none => false)
  | none => false
theorem ra_sh_all : (List.range ra_nc).all (fun i => match ra_lay i with
  | some (.inr o) => ra_shb o.1 o.2
  | some (.inl q) => decide (q.1 < 3)
  | none => false) = true := by decide +kernel
theorem ra_lay_lt {i : Nat} {h : ra_H} (hi : ra_lay i = some h) : i < ra_nc := by
  by_cases hn : i < ra_nc
  · exact hn
  · exfalso
    unfold ra_lay at hi
    rw [show Nat.ble 116 i = true from Nat.ble_eq_true_of_le (Nat.le_of_not_lt hn)] at hi
    cases hi
theorem ra_sh_ok {i ci : Nat} {fks : List (Bool ⊕ Nat)} (h : ra_lay i = some (.inr (ci, fks))) : ra_shb ci fks = true := by
  have := List.all_eq_true.mp ra_sh_all i (List.mem_range.mpr (ra_lay_lt h))
  rw [h] at this
  exact this
theorem ra_ar_ok {i ty n : Nat} (h : ra_lay i = some (.inl (ty, n))) : ty < 3 := by
  have := List.all_eq_true.mp ra_sh_all i (List.mem_range.mpr (ra_lay_lt h))
  rw [h] at this
  exact of_decide_eq_true this
theorem ra_fld {M : ra_M} (hc : ra_cn M.1 = M.2.1.cls) {idx a b : Nat} (h : (ra_cF M.1).any (fun q => decide (q.1 = idx) && (decide (q.2.1 = a) && decide (q.2.2.1 = b))) = true) : ∃ q : vw_C, vwCl[a]? = some q ∧ b < q.2.2 ∧ Cond.fieldLink M.2.1.cls idx (q.2.1 b).1 (q.2.1 b).2.1 (q.2.1 b).2.2.1 ∈ ra_tb := by
  obtain ⟨q, hq, h1⟩ := List.any_eq_true.mp h
  simp only [Bool.and_eq_true, decide_eq_true_eq] at h1
  obtain ⟨rfl, rfl, rfl⟩ := h1
  have h2 := List.all_eq_true.mp (ra_cF_all M.1) q hq
  simp only [Bool.and_eq_true, decide_eq_true_eq] at h2
  obtain ⟨h3, h4⟩ := h2
  unfold ra_nf at h4
  unfold ra_fw at h3
  cases hv : vwCl[q.2.1]? with
  | none => rw [hv] at h4; exact absurd h4 (Nat.not_lt_zero _)
  | some v =>
    rw [hv] at h3 h4
    refine ⟨v, rfl, h4, ?_⟩
    rw [← hc]
    exact ra_tb_of (List.mem_of_getElem? h3) rfl
theorem ra_cst {M : ra_M} (hc : ra_cn M.1 = M.2.1.cls) {idx : Nat} {x : Int32} (h : (ra_cI M.1).any (fun q => decide (q.1 = idx) && decide (q.2.1 = x)) = true) : Cond.constant M.2.1.cls idx x ∈ ra_tb := by
  obtain ⟨q, hq, h1⟩ := List.any_eq_true.mp h
  simp only [Bool.and_eq_true, decide_eq_true_eq] at h1
  obtain ⟨rfl, rfl⟩ := h1
  have h2 := of_decide_eq_true (List.all_eq_true.mp (ra_cI_all M.1) q hq)
  rw [← hc]
  exact ra_tb_of (List.mem_of_getElem? h2) rfl
theorem ra_cstL {M : ra_M} (hc : ra_cn M.1 = M.2.1.cls) {idx : Nat} {x : Int64} (h : (ra_cJ M.1).any (fun q => decide (q.1 = idx) && decide (q.2.1 = x)) = true) : Cond.constantLong M.2.1.cls idx x ∈ ra_tb := by
  obtain ⟨q, hq, h1⟩ := List.any_eq_true.mp h
  simp only [Bool.and_eq_true, decide_eq_true_eq] at h1
  obtain ⟨rfl, rfl⟩ := h1
  have h2 := of_decide_eq_true (List.all_eq_true.mp (ra_cJ_all M.1) q hq)
  rw [← hc]
  exact ra_tb_of (List.mem_of_getElem? h2) rfl
theorem ra_mlk {M : ra_M} (hc : ra_cn M.1 = M.2.1.cls) {idx ν : Nat} (h : (ra_cM M.1).any (fun q => decide (q.1 = idx) && decide (q.2.1 = ν)) = true) : Cond.methodLink M.2.1.cls idx (ra_mt ν).2.1 ∈ ra_tb := by
  obtain ⟨q, hq, h1⟩ := List.any_eq_true.mp h
  simp only [Bool.and_eq_true, decide_eq_true_eq] at h1
  obtain ⟨rfl, rfl⟩ := h1
  have h2 := of_decide_eq_true (List.all_eq_true.mp (ra_cM_all M.1) q hq)
  rw [← hc]
  exact ra_tb_of (List.mem_of_getElem? h2) rfl
-- the law is the last of the table: all others
theorem ra_call_ok : ∀ ν, ra_cok (ra_mt ν) := fun ν => (ra_cd (P := ra_cok) (ra_cd (P := ra_cok) (ra_cd (P := ra_cok) (ra_cd (P := ra_cok) (ra_cd (P := ra_cok) (ra_cd (P := ra_cok) (ra_cd (P := ra_cok) ra_co0 (ra_cd (P := ra_cok) ra_co1 ra_co2)) (ra_cd (P := ra_cok) (ra_cd (P := ra_cok) ra_co3 ra_co4) (ra_cd (P := ra_cok) ra_co5 ra_co6))) (ra_cd (P := ra_cok) (ra_cd (P := ra_cok) (ra_cd (P := ra_cok) ra_co7 ra_co8) (ra_cd (P := ra_cok) ra_co9 ra_co10)) (ra_cd (P := ra_cok) (ra_cd (P := ra_cok) ra_co11 ra_co12) (ra_cd (P := ra_cok) ra_co13 ra_co14)))) (ra_cd (P := ra_cok) (ra_cd (P := ra_cok) (ra_cd (P := ra_cok) (ra_cd (P := ra_cok) ra_co15 ra_co16) (ra_cd (P := ra_cok) ra_co17 ra_co18)) (ra_cd (P := ra_cok) (ra_cd (P := ra_cok) ra_co19 ra_co20) (ra_cd (P := ra_cok) ra_co21 ra_co22))) (ra_cd (P := ra_cok) (ra_cd (P := ra_cok) (ra_cd (P := ra_cok) ra_co23 ra_co24) (ra_cd (P := ra_cok) ra_co25 ra_co26)) (ra_cd (P := ra_cok) (ra_cd (P := ra_cok) ra_co27 ra_co28) (ra_cd (P := ra_cok) ra_co29 ra_co30))))) (ra_cd (P := ra_cok) (ra_cd (P := ra_cok) (ra_cd (P := ra_cok) (ra_cd (P := ra_cok) (ra_cd (P := ra_cok) ra_co31 ra_co32) (ra_cd (P := ra_cok) ra_co33 ra_co34)) (ra_cd (P := ra_cok) (ra_cd (P := ra_cok) ra_co35 ra_co36) (ra_cd (P := ra_cok) ra_co37 ra_co38))) (ra_cd (P := ra_cok) (ra_cd (P := ra_cok) (ra_cd (P := ra_cok) ra_co39 ra_co40) (ra_cd (P := ra_cok) ra_co41 ra_co42)) (ra_cd (P := ra_cok) (ra_cd (P := ra_cok) ra_co43 ra_co44) (ra_cd (P := ra_cok) ra_co45 ra_co46)))) (ra_cd (P := ra_cok) (ra_cd (P := ra_cok) (ra_cd (P := ra_cok) (ra_cd (P := ra_cok) ra_co47 ra_co48) (ra_cd (P := ra_cok) ra_co49 ra_co50)) (ra_cd (P := ra_cok) (ra_cd (P := ra_cok) ra_co51 ra_co52) (ra_cd (P := ra_cok) ra_co53 ra_co54))) (ra_cd (P := ra_cok) (ra_cd (P := ra_cok) (ra_cd (P := ra_cok) ra_co55 ra_co56) (ra_cd (P := ra_cok) ra_co57 ra_co58)) (ra_cd (P := ra_cok) (ra_cd (P := ra_cok) ra_co59 ra_co60) (ra_cd (P := ra_cok) ra_co61 ra_co62)))))) (ra_cd (P := ra_cok) (ra_cd (P := ra_cok) (ra_cd (P := ra_cok) (ra_cd (P := ra_cok) (ra_cd (P := ra_cok) (ra_cd (P := ra_cok) ra_co63 ra_co64) (ra_cd (P := ra_cok) ra_co65 ra_co66)) (ra_cd (P := ra_cok) (ra_cd (P := ra_cok) ra_co67 ra_co68) (ra_cd (P := ra_cok) ra_co69 ra_co70))) (ra_cd (P := ra_cok) (ra_cd (P := ra_cok) (ra_cd (P := ra_cok) ra_co71 ra_co72) (ra_cd (P := ra_cok) ra_co73 ra_co74)) (ra_cd (P := ra_cok) (ra_cd (P := ra_cok) ra_co75 ra_co76) (ra_cd (P := ra_cok) ra_co77 ra_co78)))) (ra_cd (P := ra_cok) (ra_cd (P := ra_cok) (ra_cd (P := ra_cok) (ra_cd (P := ra_cok) ra_co79 ra_co80) (ra_cd (P := ra_cok) ra_co81 ra_co82)) (ra_cd (P := ra_cok) (ra_cd (P := ra_cok) ra_co83 ra_co84) (ra_cd (P := ra_cok) ra_co85 ra_co86))) (ra_cd (P := ra_cok) (ra_cd (P := ra_cok) (ra_cd (P := ra_cok) ra_co87 ra_co88) (ra_cd (P := ra_cok) ra_co89 ra_co90)) (ra_cd (P := ra_cok) (ra_cd (P := ra_cok) ra_co91 ra_co92) (ra_cd (P := ra_cok) ra_co93 ra_co94))))) (ra_cd (P := ra_cok) (ra_cd (P := ra_cok) (ra_cd (P := ra_cok) (ra_cd (P := ra_cok) (ra_cd (P := ra_cok) ra_co95 ra_co96) (ra_cd (P := ra_cok) ra_co97 ra_co98)) (ra_cd (P := ra_cok) (ra_cd (P := ra_cok) ra_co99 ra_co100) (ra_cd (P := ra_cok) ra_co101 ra_co102))) (ra_cd (P := ra_cok) (ra_cd (P := ra_cok) (ra_cd (P := ra_cok) ra_co103 ra_co104) (ra_cd (P := ra_cok) ra_co105 ra_co106)) (ra_cd (P := ra_cok) (ra_cd (P := ra_cok) ra_co107 ra_co108) (ra_cd (P := ra_cok) ra_co109 ra_co110)))) (ra_cd (P := ra_cok) (ra_cd (P := ra_cok) (ra_cd (P := ra_cok) (ra_cd (P := ra_cok) ra_co111 ra_co112) (ra_cd (P := ra_cok) ra_co113 ra_co114)) (ra_cd (P := ra_cok) (ra_cd (P := ra_cok) ra_co115 ra_co116) (ra_cd (P := ra_cok) ra_co117 ra_co118))) (ra_cd (P := ra_cok) (ra_cd (P := ra_cok) (ra_cd (P := ra_cok) ra_co119 ra_co120) (ra_cd (P := ra_cok) ra_co121 ra_co122)) (ra_cd (P := ra_cok) (ra_cd (P := ra_cok) ra_co123 ra_co124) (ra_cd (P := ra_cok) ra_co125 ra_co126))))))) (ra_cd (P := ra_cok) (ra_cd (P := ra_cok) (ra_cd (P := ra_cok) (ra_cd (P := ra_cok) (ra_cd (P := ra_cok) (ra_cd (P := ra_cok) (ra_cd (P := ra_cok) ra_co127 ra_co128) (ra_cd (P := ra_cok) ra_co129 ra_co130)) (ra_cd (P := ra_cok) (ra_cd (P := ra_cok) ra_co131 ra_co132) (ra_cd (P := ra_cok) ra_co133 ra_co134))) (ra_cd (P := ra_cok) (ra_cd (P := ra_cok) (ra_cd (P := ra_cok) ra_co135 ra_co136) (ra_cd (P := ra_cok) ra_co137 ra_co138)) (ra_cd (P := ra_cok) (ra_cd (P := ra_cok) ra_co139 ra_co140) (ra_cd (P := ra_cok) ra_co141 ra_co142)))) (ra_cd (P := ra_cok) (ra_cd (P := ra_cok) (ra_cd (P := ra_cok) (ra_cd (P := ra_cok) ra_co143 ra_co144) (ra_cd (P := ra_cok) ra_co145 ra_co146)) (ra_cd (P := ra_cok) (ra_cd (P := ra_cok) ra_co147 ra_co148) (ra_cd (P := ra_cok) ra_co149 ra_co150))) (ra_cd (P := ra_cok) (ra_cd (P := ra_cok) (ra_cd (P := ra_cok) ra_co151 ra_co152) (ra_cd (P := ra_cok) ra_co153 ra_co154)) (ra_cd (P := ra_cok) (ra_cd (P := ra_cok) ra_co155 ra_co156) (ra_cd (P := ra_cok) ra_co157 ra_co158))))) (ra_cd (P := ra_cok) (ra_cd (P := ra_cok) (ra_cd (P := ra_cok) (ra_cd (P := ra_cok) (ra_cd (P := ra_cok) ra_co159 ra_co160) (ra_cd (P := ra_cok) ra_co161 ra_co162)) (ra_cd (P := ra_cok) (ra_cd (P := ra_cok) ra_co163 ra_co164) (ra_cd (P := ra_cok) ra_co165 ra_co166))) (ra_cd (P := ra_cok) (ra_cd (P := ra_cok) (ra_cd (P := ra_cok) ra_co167 ra_co168) (ra_cd (P := ra_cok) ra_co169 ra_co170)) (ra_cd (P := ra_cok) (ra_cd (P := ra_cok) ra_co171 ra_co172) (ra_cd (P := ra_cok) ra_co173 ra_co174)))) (ra_cd (P := ra_cok) (ra_cd (P := ra_cok) (ra_cd (P := ra_cok) (ra_cd (P := ra_cok) ra_co175 ra_co176) (ra_cd (P := ra_cok) ra_co177 ra_co178)) (ra_cd (P := ra_cok) (ra_cd (P := ra_cok) ra_co179 ra_co180) (ra_cd (P := ra_cok) ra_co181 ra_co182))) (ra_cd (P := ra_cok) (ra_cd (P := ra_cok) (ra_cd (P := ra_cok) ra_co183 ra_co184) (ra_cd (P := ra_cok) ra_co185 ra_co186)) (ra_cd (P := ra_cok) (ra_cd (P := ra_cok) ra_co187 ra_co188) (ra_cd (P := ra_cok) ra_co189 ra_co190)))))) (ra_cd (P := ra_cok) (ra_cd (P := ra_cok) (ra_cd (P := ra_cok) (ra_cd (P := ra_cok) (ra_cd (P := ra_cok) (ra_cd (P := ra_cok) ra_co191 ra_co192) (ra_cd (P := ra_cok) ra_co193 ra_co194)) (ra_cd (P := ra_cok) (ra_cd (P := ra_cok) ra_co195 ra_co196) (ra_cd (P := ra_cok) ra_co197 ra_co198))) (ra_cd (P := ra_cok) (ra_cd (P := ra_cok) (ra_cd (P := ra_cok) ra_co199 ra_co200) (ra_cd (P := ra_cok) ra_co201 ra_co202)) (ra_cd (P := ra_cok) (ra_cd (P := ra_cok) ra_co203 ra_co204) (ra_cd (P := ra_cok) ra_co205 ra_co206)))) (ra_cd (P := ra_cok) (ra_cd (P := ra_cok) (ra_cd (P := ra_cok) (ra_cd (P := ra_cok) ra_co207 ra_co208) (ra_cd (P := ra_cok) ra_co209 ra_co210)) (ra_cd (P := ra_cok) (ra_cd (P := ra_cok) ra_co211 ra_co212) (ra_cd (P := ra_cok) ra_co213 ra_co214))) (ra_cd (P := ra_cok) (ra_cd (P := ra_cok) (ra_cd (P := ra_cok) ra_co215 ra_co216) (ra_cd (P := ra_cok) ra_co217 ra_co218)) (ra_cd (P := ra_cok) (ra_cd (P := ra_cok) ra_co219 ra_co220) (ra_cd (P := ra_cok) ra_co221 ra_co222))))) (ra_cd (P := ra_cok) (ra_cd (P := ra_cok) (ra_cd (P := ra_cok) (ra_cd (P := ra_cok) (ra_cd (P := ra_cok) ra_co223 ra_co224) (ra_cd (P := ra_cok) ra_co225 ra_co226)) (ra_cd (P := ra_cok) (ra_cd (P := ra_cok) ra_co227 ra_co228) (ra_cd (P := ra_cok) ra_co229 ra_co230))) (ra_cd (P := ra_cok) (ra_cd (P := ra_cok) (ra_cd (P := ra_cok) ra_co231 ra_co232) (ra_cd (P := ra_cok) ra_co233 ra_co234)) (ra_cd (P := ra_cok) (ra_cd (P := ra_cok) ra_co235 ra_co236) (ra_cd (P := ra_cok) ra_co237 ra_co238)))) (ra_cd (P := ra_cok) (ra_cd (P := ra_cok) (ra_cd (P := ra_cok) (ra_cd (P := ra_cok) ra_co239 ra_co240) (ra_cd (P := ra_cok) ra_co241 ra_co242)) (ra_cd (P := ra_cok) (ra_cd (P := ra_cok) ra_co243 ra_co244) (ra_cd (P := ra_cok) ra_co245 ra_co246))) (ra_cd (P := ra_cok) (ra_cd (P := ra_cok) (ra_cd (P := ra_cok) ra_co247 ra_co248) (ra_cd (P := ra_cok) ra_co249 ra_co250)) (ra_cd (P := ra_cok) (ra_cd (P := ra_cok) ra_co251 ra_co252) (ra_cd (P := ra_cok) ra_co254 ra_co255))))))))
