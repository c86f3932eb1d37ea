-- ===== what holds at the law's start (by gen96.py) =====
theorem rp_inst : ∀ (ci : Nat) (q : vw_C), vwCl[ci]? = some q → Cond.instantiable q.1 q.2.2 ∈ ra_tb := by
  intro ci q h
  match ci, h with
  | 0, h => cases h; exact (ra_tb_of (List.mem_of_getElem? (i := 406) (by decide +kernel)) rfl)
  | 1, h => cases h; exact (ra_tb_of (List.mem_of_getElem? (i := 376) (by decide +kernel)) rfl)
  | 2, h => cases h; exact (ra_tb_of (List.mem_of_getElem? (i := 193) (by decide +kernel)) rfl)
  | 3, h => cases h; exact (ra_tb_of (List.mem_of_getElem? (i := 131) (by decide +kernel)) rfl)
  | 4, h => cases h; exact (ra_tb_of (List.mem_of_getElem? (i := 35) (by decide +kernel)) rfl)
  | 5, h => cases h; exact (ra_tb_of (List.mem_of_getElem? (i := 466) (by decide +kernel)) rfl)
  | 6, h => cases h; exact (ra_tb_of (List.mem_of_getElem? (i := 226) (by decide +kernel)) rfl)
  | 7, h => cases h; exact (ra_tb_of (List.mem_of_getElem? (i := 187) (by decide +kernel)) rfl)
  | 8, h => cases h; exact (ra_tb_of (List.mem_of_getElem? (i := 492) (by decide +kernel)) rfl)
  | 9, h => cases h; exact (ra_tb_of (List.mem_of_getElem? (i := 335) (by decide +kernel)) rfl)
  | 10, h => cases h; exact (ra_tb_of (List.mem_of_getElem? (i := 41) (by decide +kernel)) rfl)
  | 11, h => cases h; exact (ra_tb_of (List.mem_of_getElem? (i := 27) (by decide +kernel)) rfl)
  | 12, h => cases h; exact (ra_tb_of (List.mem_of_getElem? (i := 1250) (by decide +kernel)) rfl)
  | n + 13, h => cases h
theorem rp_K {s : State} {args : Array Value} (hts : ∀ w ∈ ra_tb, w.before args s = true) : ∃ (D : va_G) (cA : Nat → ClassId), va_K D vwCl (ra_ty cA) s := by
  have h : ∀ ci : Nat, ∃ z : ClassId × (Nat → Nat), ∀ q : vw_C, vwCl[ci]? = some q → u_Kn s q.1 q.2.1 q.2.2 z.1 z.2 := by
    intro ci
    cases hc : vwCl[ci]? with
    | none =>
      obtain ⟨c0, k0, m0, a1, a2, a3⟩ := Cond.arrayClass_spec (hts _ rp_wI)
      exact ⟨(c0, fun _ => 0), fun q hq => by cases hq⟩
    | some q =>
      obtain ⟨cC, iS, hk⟩ := u_known (C := q.1) (T := q.2.1) (N := q.2.2) (n := q.2.2) hts (ra_lays ci q hc) (hts _ (rp_inst ci q hc))
      exact ⟨(cC, iS), fun q' hq' => by cases hq'; exact hk⟩
  obtain ⟨f, hf⟩ := Classical.axiomOfChoice h
  obtain ⟨c0, k0, m0, a1, a2, a3⟩ := Cond.arrayClass_spec (hts _ rp_wI)
  obtain ⟨c1, k1, m1, b1, b2, b3⟩ := Cond.arrayClass_spec (hts _ rp_wZ)
  obtain ⟨c2, k2, m2, d1, d2, d3⟩ := Cond.arrayClass_spec (hts _ rp_wJ)
  refine ⟨(fun c => (f c).1, fun c => (f c).2), fun q => if q = 0 then c0 else if q = 1 then c1 else c2, fun c q hq => hf c q hq, fun k q hk => ?_⟩
  match k, hk with
  | 0, hk => cases hk; exact ⟨fun n z => ⟨fun k h => (by cases h), k0, a2, m0, a3⟩, a1⟩
  | 1, hk => cases hk; exact ⟨fun n z => ⟨fun k h => (by cases h), k1, b2, m1, b3⟩, b1⟩
  | 2, hk => cases hk; exact ⟨fun n z => ⟨fun k h => (by cases h), k2, d2, m2, d3⟩, d1⟩
  | k + 3, hk => cases hk
theorem rp_N {s : State} {args : Array Value} (hT : ∀ w ∈ tables_1, w.before args s = true) : ∀ w ∈ ra_nest, va_Nw w s := by
  intro w hw
  unfold ra_nest at hw
  simp only [List.mem_cons, List.not_mem_nil, or_false] at hw
  rcases hw with rfl | rfl | rfl | rfl | rfl | rfl
  · exact va_Nw.of rfl (hT _ (List.mem_of_getElem? (i := 582) (by decide +kernel)))
  · exact va_Nw.of rfl (hT _ (List.mem_of_getElem? (i := 607) (by decide +kernel)))
  · exact va_Nw.of rfl (hT _ (List.mem_of_getElem? (i := 634) (by decide +kernel)))
  · exact va_Nw.of rfl (hT _ (List.mem_of_getElem? (i := 787) (by decide +kernel)))
  · exact va_Nw.of rfl (hT _ (List.mem_of_getElem? (i := 423) (by decide +kernel)))
  · exact va_Nw.of rfl (hT _ (List.mem_of_getElem? (i := 425) (by decide +kernel)))
theorem rp_el : ∀ j : Fin 63, Cond.eq (.elem (.field (.string "StickStrings$Tape" 18) "java/lang/String" "value" "[B") (.int (Int32.ofNat j.val))) (.int (rp_byt.getD j.val 0)) ∈ flatC (Jvm.Cond.and given_1 narrow_1) := by decide +kernel
theorem rp_Zof {s : State} {args : Array Value} (hT : ∀ w ∈ tables_1, w.before args s = true) (hfl : ∀ w ∈ flatC (Jvm.Cond.and given_1 narrow_1), w.before args s = true) : ∃ sk sv : Nat, rp_Z s.heap.size sk sv s s.heap := by
  have hA : ∀ a : Nat, a < s.heap.size → ¬ (fun q : Nat => s.heap.size ≤ q) a := fun a h => Nat.not_le.mpr h
  obtain ⟨adK, adV, hS, hev⟩ := vk_Sof (args := args) (s := s) (N := 1) (tm := fun _ => (.string "StickStrings$Tape" 18)) (len := [63]) (byt := [rp_byt]) (A := fun q : Nat => s.heap.size ≤ q)
    (fun i hi => by have : i = 0 := by omega
                    subst this
                    decide)
    (fun i hi => hfl _ (by decide +kernel)) (fun i hi => hfl _ (by decide +kernel)) (fun i hi => hfl _ (by decide +kernel))
    (fun i hi => by have : i = 0 := by omega
                    subst this
                    exact hfl _ (by decide +kernel))
    (fun i hi j hj => by have : i = 0 := by omega
                         subst this
                         have hj : j < 63 := hj
                         exact hfl _ (rp_el ⟨j, hj⟩))
    (fun i j hi hj hij => absurd (show i = j by omega) hij) hA
  have e1 : (Term.string "StickStrings$Tape" 18).eval args s none [] s = some (.ref (adK 0)) := hev 0 (by decide)
  refine ⟨adK 0, adV 0, vk_R.of (hT _ (List.mem_of_getElem? (i := 46) (by decide +kernel))) e1, ⟨fun i hi => ?_, fun i j hi hj _ => by omega⟩, va_Zof (hT _ (List.mem_of_getElem? (i := 56) (by decide +kernel))) (hT _ (List.mem_of_getElem? (i := 4) (by decide +kernel))) (va_eqt (hfl _ (by decide +kernel))) hA, va_Zqof (hT _ (List.mem_of_getElem? (i := 72) (by decide +kernel))) (hT _ (List.mem_of_getElem? (i := 6) (by decide +kernel))) (hfl _ (by decide +kernel)) hA⟩
  have : i = 0 := by omega
  subst this
  exact hS.1 0 (by decide)
theorem rp_Xof {s : State} {args : Array Value} (hT : ∀ w ∈ tables_1, w.before args s = true) (hfl : ∀ w ∈ flatC (Jvm.Cond.and given_1 narrow_1), w.before args s = true) : ∃ sa1 sa2 : Nat, rz_Xs sa1 sa2 (fun q : Nat => s.heap.size ≤ q) s s.heap := by
  have hA : ∀ a : Nat, a < s.heap.size → ¬ (fun q : Nat => s.heap.size ≤ q) a := fun a h => Nat.not_le.mpr h
  obtain ⟨a1, x1, x2, x3, e1, -⟩ := Cond.exactly_spec (hfl (.exactly (.string "StickStrings" 135) "java/lang/String") (by decide +kernel))
  obtain ⟨a2, y1, y2, y3, e2, -⟩ := Cond.exactly_spec (hfl (.exactly (.string "StickStrings" 166) "java/lang/String") (by decide +kernel))
  exact ⟨a1, a2, va_Nw.of rfl (hT _ (List.mem_of_getElem? (i := 1169) (by decide +kernel))), va_Nw.of rfl (hT _ (List.mem_of_getElem? (i := 1235) (by decide +kernel))), va_Nc.of (hfl (.not (.castable rz_xN rz_xI)) (by decide +kernel)), vk_R.of (hT _ (List.mem_of_getElem? (i := 1207) (by decide +kernel))) e1, vk_R.of (hT _ (List.mem_of_getElem? (i := 1242) (by decide +kernel))) e2,
    vx_Zqof (hT _ (List.mem_of_getElem? (i := 1194) (by decide +kernel))) (hT _ (List.mem_of_getElem? (i := 19) (by decide +kernel))) (hfl _ (by decide +kernel)) hA, vx_Zqof (hT _ (List.mem_of_getElem? (i := 1196) (by decide +kernel))) (hT _ (List.mem_of_getElem? (i := 19) (by decide +kernel))) (hfl _ (by decide +kernel)) hA, va_Nw.of rfl (hT _ (List.mem_of_getElem? (i := 1171) (by decide +kernel))), va_Nw.of rfl (hT _ (List.mem_of_getElem? (i := 1173) (by decide +kernel))), va_Nw.of rfl (hT _ (List.mem_of_getElem? (i := 1175) (by decide +kernel)))⟩
theorem rp_off {l : Launch} (h : l.flags = flags0) : l.stackTraces = false := by
  have h : l.flags = Jvm.pinnedFlags ++ [Jvm.noTraceFlag] := h
  unfold Launch.stackTraces
  rw [h]
  decide
