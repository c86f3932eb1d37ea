-- ===== the tables are the class files': checked by the kernel; written by wip/whole/gen05.py =====
def ra_nest : List Cond := [.methodLinkNest "StickStrings$Tape" 57 ⟨"StickStrings", "find", "([III)I"⟩ "StickStrings", .methodLinkNest "StickStrings$Parser" 211 ⟨"StickStrings", "within", "(III)Z"⟩ "StickStrings", .methodLinkNest "StickStrings$Parser" 207 ⟨"StickStrings", "find", "([III)I"⟩ "StickStrings", .methodLinkNest "StickStrings$Play" 89 ⟨"StickStrings", "wayBetween", "(II)I"⟩ "StickStrings", .fieldLinkNest "StickStrings$Play" 122 "StickStrings$Cast" "lead" "[I" "StickStrings", .fieldLinkNest "StickStrings$Play" 58 "StickStrings$Cast" "stickLate" "[I" "StickStrings"]
def ra_tb : List Cond := lw_tbl.filter goodWord
theorem ra_tb_of {w : Cond} (h : w ∈ tables_1) (hg : goodWord w = true) : w ∈ ra_tb := List.mem_filter.mpr ⟨List.mem_append_right _ h, hg⟩
/-- the word of a field -/
def ra_fw (own : String) (idx a b : Nat) : Cond := match vwCl[a]? with
  | some q => .fieldLink own idx (q.2.1 b).1 (q.2.1 b).2.1 (q.2.1 b).2.2.1
  | none => .tt
def ra_fwN (own : String) (idx a b : Nat) : Cond := match vwCl[a]? with
  | some q => .fieldLinkNest own idx (q.2.1 b).1 (q.2.1 b).2.1 (q.2.1 b).2.2.1 "StickStrings"
  | none => .tt
def ra_nf (a : Nat) : Nat := match vwCl[a]? with
  | some q => q.2.2
  | none => 0
def ra_fin (a b : Nat) : Bool := match vwCl[a]? with
  | some q => (q.2.1 b).2.2.2
  | none => true
def ra_has {α : Type} (l : List α) (f : α → Bool) : Bool := l.any f
/-- an instruction of the table is the code's, and its numbers are right -/
def ra_eok (M : ra_M) (pc : Nat) (e : ra_E) : Bool := decide (decode M.2.2.1 pc = .ok (e.1, e.2.1)) && (match e.1 with
  | .iconst v => decide (e.2.1 = 1) && decide (Int32.ofInt v = e.2.2.2.2.1)
  | .bipush v => decide (e.2.1 = 2) && decide ((Int8.ofInt v).toInt32 = e.2.2.2.2.1)
  | .sipush v => decide (e.2.1 = 3) && decide ((Int16.ofInt v).toInt32 = e.2.2.2.2.1)
  | .ldc idx => decide (e.2.1 = 2) && (ra_cI M.1).any (fun q => decide (q.1 = idx) && decide (q.2.1 = e.2.2.2.2.1))
  | .ldc_w idx => decide (e.2.1 = 3) && (ra_cI M.1).any (fun q => decide (q.1 = idx) && decide (q.2.1 = e.2.2.2.2.1))
  | .lconst v => decide (e.2.1 = 1) && decide (Int64.ofNat (v : Nat) = e.2.2.2.2.2)
  | .ldc2_w idx => decide (e.2.1 = 3) && (ra_cJ M.1).any (fun q => decide (q.1 = idx) && decide (q.2.1 = e.2.2.2.2.2))
  | .iload i => decide (e.2.1 = 2) && decide (i < M.2.2.2.1.1)
  | .aload i => decide (e.2.1 = 2) && decide (i < M.2.2.2.1.1)
  | .istore i => decide (e.2.1 = 2) && decide (i < M.2.2.2.1.1)
  | .astore i => decide (e.2.1 = 2) && decide (i < M.2.2.2.1.1)
  | .lload i => decide (e.2.1 = 2) && decide (i + 1 < M.2.2.2.1.1)
  | .lstore i => decide (e.2.1 = 2) && decide (i + 1 < M.2.2.2.1.1)
  | .iload_n i => decide (e.2.1 = 1) && decide ((i : Nat) < M.2.2.2.1.1)
  | .aload_n i => decide (e.2.1 = 1) && decide ((i : Nat) < M.2.2.2.1.1)
  | .istore_n i => decide (e.2.1 = 1) && decide ((i : Nat) < M.2.2.2.1.1)
  | .astore_n i => decide (e.2.1 = 1) && decide ((i : Nat) < M.2.2.2.1.1)
  | .lload_n i => decide (e.2.1 = 1) && decide ((i : Nat) + 1 < M.2.2.2.1.1)
  | .lstore_n i => decide (e.2.1 = 1) && decide ((i : Nat) + 1 < M.2.2.2.1.1)
  | .iinc i v => decide (e.2.1 = 3) && (decide (i < M.2.2.2.1.1) && decide (Int32.ofInt v = e.2.2.2.2.1))
  | .goto off => decide (e.2.1 = 3) && decide ((pc : Int) + off = (e.2.2.1 : Int))
  | .if_icmp _ off => decide (e.2.1 = 3) && decide ((pc : Int) + off = (e.2.2.1 : Int))
  | .ifCond _ off => decide (e.2.1 = 3) && decide ((pc : Int) + off = (e.2.2.1 : Int))
  | .tableswitch d low hi offs => decide (0 ≤ (pc : Int) + d) && (decide (hi = low + (offs.toList.length : Int) - 1) && (decide (0 ≤ low ∧ hi < 1000) && offs.toList.all (fun x => decide (0 ≤ (pc : Int) + x))))
  | .lookupswitch d ps => decide (0 ≤ (pc : Int) + d) && ((ps.toList.zip (ps.toList.drop 1)).all (fun (a, next) => a.1 < next.1) && ps.toList.all (fun x => decide (0 ≤ (pc : Int) + x.2) && decide (0 ≤ x.1 ∧ x.1 < 1000)))
  | .getfield idx => decide (e.2.1 = 3) && ((decide (e.2.2.2.2.1 = 0) && (ra_cF M.1).any (fun q => decide (q.1 = idx) && (decide (q.2.1 = e.2.2.1) && decide (q.2.2.1 = e.2.2.2.1)))) || (decide (e.2.2.2.2.1 = 1) && decide (ra_fwN M.2.1.cls idx e.2.2.1 e.2.2.2.1 ∈ ra_nest)))
  | .putfield idx => decide (e.2.1 = 3) && ((ra_cF M.1).any (fun q => decide (q.1 = idx) && (decide (q.2.1 = e.2.2.1) && decide (q.2.2.1 = e.2.2.2.1))) && !ra_fin e.2.2.1 e.2.2.2.1)
  | .invokestatic idx => decide (e.2.1 = 3) && (
      (decide (e.2.2.2.1 = 1) && (decide (Cond.methodLink M.2.1.cls idx arraycopyName ∈ tables_1) && (Nat.ble 1 M.2.2.2.2.2.1.1 && Nat.ble 26 M.2.2.2.2.2.1.2))) ||
      (decide (e.2.2.2.1 = 0) && ((ra_cM M.1).any (fun q => decide (q.1 = idx) && decide (q.2.1 = e.2.2.1)) && (Nat.ble ((ra_mt e.2.2.1).2.2.2.2.2.1.1 + 1) M.2.2.2.2.2.1.1 && Nat.ble (8 + ((ra_mt e.2.2.1).2.2.2.1.1 + 11) + (ra_mt e.2.2.1).2.2.2.2.2.1.2) M.2.2.2.2.2.1.2))) ||
      (decide (e.2.2.2.1 = 2) && (decide (Cond.methodLinkNest M.2.1.cls idx (ra_mt e.2.2.1).2.1 "StickStrings" ∈ ra_nest) && (Nat.ble ((ra_mt e.2.2.1).2.2.2.2.2.1.1 + 1) M.2.2.2.2.2.1.1 && Nat.ble (8 + ((ra_mt e.2.2.1).2.2.2.1.1 + 11) + (ra_mt e.2.2.1).2.2.2.2.2.1.2) M.2.2.2.2.2.1.2))))
  | .invokevirtual idx => decide (e.2.1 = 3) && ((ra_cM M.1).any (fun q => decide (q.1 = idx) && decide (q.2.1 = e.2.2.1)) && (Nat.ble ((ra_mt e.2.2.1).2.2.2.2.2.1.1 + 1) M.2.2.2.2.2.1.1 && Nat.ble (8 + ((ra_mt e.2.2.1).2.2.2.1.1 + 11) + (ra_mt e.2.2.1).2.2.2.2.2.1.2) M.2.2.2.2.2.1.2))
  | _ => decide (e.2.1 = 1))
def ra_chk (M : ra_M) (n : Nat) : Bool := (List.range n).all (fun pc => match M.2.2.2.2.2.2 pc with
  | some e => ra_eok M pc e
  | none => true)
/-- what the tables say of a method that is called -/
def ra_mok (M : ra_M) : Prop := ra_cn M.1 = M.2.1.cls ∧ plainFor M.2.1 = true ∧ (M.2.1.cls ≠ "java/lang/invoke/MethodHandle" ∧ M.2.1.cls ≠ "java/lang/invoke/VarHandle") ∧
  (parseMethodDescriptor M.2.1.desc).map (fun d => d.parameters.length) = some M.2.2.2.2.1.2 ∧ ∀ pc e, M.2.2.2.2.2.2 pc = some e → ra_eok M pc e = true
/-- .. and of one that may be called -/
def ra_cok (M : ra_M) : Prop := ra_mok M ∧ Cond.code M.2.1 M.2.2.1 M.2.2.2.1.1 M.2.2.2.1.2 ∈ ra_tb ∧ Cond.initialized M.2.1.cls ∈ ra_tb ∧
  (M.2.2.2.2.1.1 = true → Cond.static M.2.1 ∈ ra_tb) ∧ (M.2.2.2.2.1.1 = false → Cond.instanceMethod M.2.1 ∈ ra_tb ∧ Cond.selects M.2.1.cls M.2.1 M.2.1 ∈ ra_tb ∧ ∃ q, vwCl[M.1]? = some q ∧ q.1 = M.2.1.cls)
theorem ra_chk_ok {M : ra_M} {n : Nat} (h : ra_chk M n = true) (hn : ∀ pc, n ≤ pc → M.2.2.2.2.2.2 pc = none) : ∀ pc e, M.2.2.2.2.2.2 pc = some e → ra_eok M pc e = true := by
  intro pc e he
  by_cases hp : pc < n
  · have h1 := List.all_eq_true.mp h pc (List.mem_range.mpr hp)
    rw [he] at h1
    exact h1
  · rw [hn pc (Nat.le_of_not_lt hp)] at he
    cases he
theorem ra_gn {n pc : Nat} {x : Option ra_E} (h : n ≤ pc) : (bif Nat.ble n pc then none else x) = none := by
  rw [Nat.ble_eq_true_of_le h]; rfl
theorem ra_cd {α : Type} {P : α → Prop} {b : Bool} {x y : α} (hx : P x) (hy : P y) : P (bif b then x else y) := by cases b <;> assumption
theorem ra_cF0 : (ra_cF 0).all (fun q => decide (tables_1[q.2.2.2]? = some (ra_fw (ra_cn 0) q.1 q.2.1 q.2.2.1)) && decide (q.2.2.1 < ra_nf q.2.1)) = true := by decide +kernel
theorem ra_cI0 : (ra_cI 0).all (fun q => decide (tables_1[q.2.2]? = some (.constant (ra_cn 0) q.1 q.2.1))) = true := by decide +kernel
theorem ra_cJ0 : (ra_cJ 0).all (fun q => decide (tables_1[q.2.2]? = some (.constantLong (ra_cn 0) q.1 q.2.1))) = true := by decide +kernel
theorem ra_cM0 : (ra_cM 0).all (fun q => decide (tables_1[q.2.2]? = some (.methodLink (ra_cn 0) q.1 (ra_mt q.2.1).2.1))) = true := by decide +kernel
theorem ra_cF1 : (ra_cF 1).all (fun q => decide (tables_1[q.2.2.2]? = some (ra_fw (ra_cn 1) q.1 q.2.1 q.2.2.1)) && decide (q.2.2.1 < ra_nf q.2.1)) = true := by decide +kernel
theorem ra_cI1 : (ra_cI 1).all (fun q => decide (tables_1[q.2.2]? = some (.constant (ra_cn 1) q.1 q.2.1))) = true := by decide +kernel
theorem ra_cJ1 : (ra_cJ 1).all (fun q => decide (tables_1[q.2.2]? = some (.constantLong (ra_cn 1) q.1 q.2.1))) = true := by decide +kernel
theorem ra_cM1 : (ra_cM 1).all (fun q => decide (tables_1[q.2.2]? = some (.methodLink (ra_cn 1) q.1 (ra_mt q.2.1).2.1))) = true := by decide +kernel
theorem ra_cF2 : (ra_cF 2).all (fun q => decide (tables_1[q.2.2.2]? = some (ra_fw (ra_cn 2) q.1 q.2.1 q.2.2.1)) && decide (q.2.2.1 < ra_nf q.2.1)) = true := by decide +kernel
theorem ra_cI2 : (ra_cI 2).all (fun q => decide (tables_1[q.2.2]? = some (.constant (ra_cn 2) q.1 q.2.1))) = true := by decide +kernel
theorem ra_cJ2 : (ra_cJ 2).all (fun q => decide (tables_1[q.2.2]? = some (.constantLong (ra_cn 2) q.1 q.2.1))) = true := by decide +kernel
theorem ra_cM2 : (ra_cM 2).all (fun q => decide (tables_1[q.2.2]? = some (.methodLink (ra_cn 2) q.1 (ra_mt q.2.1).2.1))) = true := by decide +kernel
theorem ra_cF3 : (ra_cF 3).all (fun q => decide (tables_1[q.2.2.2]? = some (ra_fw (ra_cn 3) q.1 q.2.1 q.2.2.1)) && decide (q.2.2.1 < ra_nf q.2.1)) = true := by decide +kernel
theorem ra_cI3 : (ra_cI 3).all (fun q => decide (tables_1[q.2.2]? = some (.constant (ra_cn 3) q.1 q.2.1))) = true := by decide +kernel
theorem ra_cJ3 : (ra_cJ 3).all (fun q => decide (tables_1[q.2.2]? = some (.constantLong (ra_cn 3) q.1 q.2.1))) = true := by decide +kernel
theorem ra_cM3 : (ra_cM 3).all (fun q => decide (tables_1[q.2.2]? = some (.methodLink (ra_cn 3) q.1 (ra_mt q.2.1).2.1))) = true := by decide +kernel
theorem ra_cF4 : (ra_cF 4).all (fun q => decide (tables_1[q.2.2.2]? = some (ra_fw (ra_cn 4) q.1 q.2.1 q.2.2.1)) && decide (q.2.2.1 < ra_nf q.2.1)) = true := by decide +kernel
theorem ra_cI4 : (ra_cI 4).all (fun q => decide (tables_1[q.2.2]? = some (.constant (ra_cn 4) q.1 q.2.1))) = true := by decide +kernel
theorem ra_cJ4 : (ra_cJ 4).all (fun q => decide (tables_1[q.2.2]? = some (.constantLong (ra_cn 4) q.1 q.2.1))) = true := by decide +kernel
theorem ra_cM4 : (ra_cM 4).all (fun q => decide (tables_1[q.2.2]? = some (.methodLink (ra_cn 4) q.1 (ra_mt q.2.1).2.1))) = true := by decide +kernel
theorem ra_cF5 : (ra_cF 5).all (fun q => decide (tables_1[q.2.2.2]? = some (ra_fw (ra_cn 5) q.1 q.2.1 q.2.2.1)) && decide (q.2.2.1 < ra_nf q.2.1)) = true := by decide +kernel
theorem ra_cI5 : (ra_cI 5).all (fun q => decide (tables_1[q.2.2]? = some (.constant (ra_cn 5) q.1 q.2.1))) = true := by decide +kernel
theorem ra_cJ5 : (ra_cJ 5).all (fun q => decide (tables_1[q.2.2]? = some (.constantLong (ra_cn 5) q.1 q.2.1))) = true := by decide +kernel
theorem ra_cM5 : (ra_cM 5).all (fun q => decide (tables_1[q.2.2]? = some (.methodLink (ra_cn 5) q.1 (ra_mt q.2.1).2.1))) = true := by decide +kernel
theorem ra_cF6 : (ra_cF 6).all (fun q => decide (tables_1[q.2.2.2]? = some (ra_fw (ra_cn 6) q.1 q.2.1 q.2.2.1)) && decide (q.2.2.1 < ra_nf q.2.1)) = true := by decide +kernel
theorem ra_cI6 : (ra_cI 6).all (fun q => decide (tables_1[q.2.2]? = some (.constant (ra_cn 6) q.1 q.2.1))) = true := by decide +kernel
theorem ra_cJ6 : (ra_cJ 6).all (fun q => decide (tables_1[q.2.2]? = some (.constantLong (ra_cn 6) q.1 q.2.1))) = true := by decide +kernel
theorem ra_cM6 : (ra_cM 6).all (fun q => decide (tables_1[q.2.2]? = some (.methodLink (ra_cn 6) q.1 (ra_mt q.2.1).2.1))) = true := by decide +kernel
theorem ra_cF7 : (ra_cF 7).all (fun q => decide (tables_1[q.2.2.2]? = some (ra_fw (ra_cn 7) q.1 q.2.1 q.2.2.1)) && decide (q.2.2.1 < ra_nf q.2.1)) = true := by decide +kernel
theorem ra_cI7 : (ra_cI 7).all (fun q => decide (tables_1[q.2.2]? = some (.constant (ra_cn 7) q.1 q.2.1))) = true := by decide +kernel
theorem ra_cJ7 : (ra_cJ 7).all (fun q => decide (tables_1[q.2.2]? = some (.constantLong (ra_cn 7) q.1 q.2.1))) = true := by decide +kernel
theorem ra_cM7 : (ra_cM 7).all (fun q => decide (tables_1[q.2.2]? = some (.methodLink (ra_cn 7) q.1 (ra_mt q.2.1).2.1))) = true := by decide +kernel
theorem ra_cF8 : (ra_cF 8).all (fun q => decide (tables_1[q.2.2.2]? = some (ra_fw (ra_cn 8) q.1 q.2.1 q.2.2.1)) && decide (q.2.2.1 < ra_nf q.2.1)) = true := by decide +kernel
theorem ra_cI8 : (ra_cI 8).all (fun q => decide (tables_1[q.2.2]? = some (.constant (ra_cn 8) q.1 q.2.1))) = true := by decide +kernel
theorem ra_cJ8 : (ra_cJ 8).all (fun q => decide (tables_1[q.2.2]? = some (.constantLong (ra_cn 8) q.1 q.2.1))) = true := by decide +kernel
theorem ra_cM8 : (ra_cM 8).all (fun q => decide (tables_1[q.2.2]? = some (.methodLink (ra_cn 8) q.1 (ra_mt q.2.1).2.1))) = true := by decide +kernel
theorem ra_cF9 : (ra_cF 9).all (fun q => decide (tables_1[q.2.2.2]? = some (ra_fw (ra_cn 9) q.1 q.2.1 q.2.2.1)) && decide (q.2.2.1 < ra_nf q.2.1)) = true := by decide +kernel
theorem ra_cI9 : (ra_cI 9).all (fun q => decide (tables_1[q.2.2]? = some (.constant (ra_cn 9) q.1 q.2.1))) = true := by decide +kernel
theorem ra_cJ9 : (ra_cJ 9).all (fun q => decide (tables_1[q.2.2]? = some (.constantLong (ra_cn 9) q.1 q.2.1))) = true := by decide +kernel
theorem ra_cM9 : (ra_cM 9).all (fun q => decide (tables_1[q.2.2]? = some (.methodLink (ra_cn 9) q.1 (ra_mt q.2.1).2.1))) = true := by decide +kernel
theorem ra_cF10 : (ra_cF 10).all (fun q => decide (tables_1[q.2.2.2]? = some (ra_fw (ra_cn 10) q.1 q.2.1 q.2.2.1)) && decide (q.2.2.1 < ra_nf q.2.1)) = true := by decide +kernel
theorem ra_cI10 : (ra_cI 10).all (fun q => decide (tables_1[q.2.2]? = some (.constant (ra_cn 10) q.1 q.2.1))) = true := by decide +kernel
theorem ra_cJ10 : (ra_cJ 10).all (fun q => decide (tables_1[q.2.2]? = some (.constantLong (ra_cn 10) q.1 q.2.1))) = true := by decide +kernel
theorem ra_cM10 : (ra_cM 10).all (fun q => decide (tables_1[q.2.2]? = some (.methodLink (ra_cn 10) q.1 (ra_mt q.2.1).2.1))) = true := by decide +kernel
theorem ra_cF11 : (ra_cF 11).all (fun q => decide (tables_1[q.2.2.2]? = some (ra_fw (ra_cn 11) q.1 q.2.1 q.2.2.1)) && decide (q.2.2.1 < ra_nf q.2.1)) = true := by decide +kernel
theorem ra_cI11 : (ra_cI 11).all (fun q => decide (tables_1[q.2.2]? = some (.constant (ra_cn 11) q.1 q.2.1))) = true := by decide +kernel
theorem ra_cJ11 : (ra_cJ 11).all (fun q => decide (tables_1[q.2.2]? = some (.constantLong (ra_cn 11) q.1 q.2.1))) = true := by decide +kernel
theorem ra_cM11 : (ra_cM 11).all (fun q => decide (tables_1[q.2.2]? = some (.methodLink (ra_cn 11) q.1 (ra_mt q.2.1).2.1))) = true := by decide +kernel
theorem ra_cF12 : (ra_cF 12).all (fun q => decide (tables_1[q.2.2.2]? = some (ra_fw (ra_cn 12) q.1 q.2.1 q.2.2.1)) && decide (q.2.2.1 < ra_nf q.2.1)) = true := by decide +kernel
theorem ra_cI12 : (ra_cI 12).all (fun q => decide (tables_1[q.2.2]? = some (.constant (ra_cn 12) q.1 q.2.1))) = true := by decide +kernel
theorem ra_cJ12 : (ra_cJ 12).all (fun q => decide (tables_1[q.2.2]? = some (.constantLong (ra_cn 12) q.1 q.2.1))) = true := by decide +kernel
theorem ra_cM12 : (ra_cM 12).all (fun q => decide (tables_1[q.2.2]? = some (.methodLink (ra_cn 12) q.1 (ra_mt q.2.1).2.1))) = true := by decide +kernel
theorem ra_cF13 : (ra_cF 13).all (fun q => decide (tables_1[q.2.2.2]? = some (ra_fw (ra_cn 13) q.1 q.2.1 q.2.2.1)) && decide (q.2.2.1 < ra_nf q.2.1)) = true := by decide +kernel
theorem ra_cI13 : (ra_cI 13).all (fun q => decide (tables_1[q.2.2]? = some (.constant (ra_cn 13) q.1 q.2.1))) = true := by decide +kernel
theorem ra_cJ13 : (ra_cJ 13).all (fun q => decide (tables_1[q.2.2]? = some (.constantLong (ra_cn 13) q.1 q.2.1))) = true := by decide +kernel
theorem ra_cM13 : (ra_cM 13).all (fun q => decide (tables_1[q.2.2]? = some (.methodLink (ra_cn 13) q.1 (ra_mt q.2.1).2.1))) = true := by decide +kernel
theorem ra_cF14 : (ra_cF 14).all (fun q => decide (tables_1[q.2.2.2]? = some (ra_fw (ra_cn 14) q.1 q.2.1 q.2.2.1)) && decide (q.2.2.1 < ra_nf q.2.1)) = true := by decide +kernel
theorem ra_cI14 : (ra_cI 14).all (fun q => decide (tables_1[q.2.2]? = some (.constant (ra_cn 14) q.1 q.2.1))) = true := by decide +kernel
theorem ra_cJ14 : (ra_cJ 14).all (fun q => decide (tables_1[q.2.2]? = some (.constantLong (ra_cn 14) q.1 q.2.1))) = true := by decide +kernel
theorem ra_cM14 : (ra_cM 14).all (fun q => decide (tables_1[q.2.2]? = some (.methodLink (ra_cn 14) q.1 (ra_mt q.2.1).2.1))) = true := by decide +kernel
theorem ra_cF15 : (ra_cF 15).all (fun q => decide (tables_1[q.2.2.2]? = some (ra_fw (ra_cn 15) q.1 q.2.1 q.2.2.1)) && decide (q.2.2.1 < ra_nf q.2.1)) = true := by decide +kernel
theorem ra_cI15 : (ra_cI 15).all (fun q => decide (tables_1[q.2.2]? = some (.constant (ra_cn 15) q.1 q.2.1))) = true := by decide +kernel
theorem ra_cJ15 : (ra_cJ 15).all (fun q => decide (tables_1[q.2.2]? = some (.constantLong (ra_cn 15) q.1 q.2.1))) = true := by decide +kernel
theorem ra_cM15 : (ra_cM 15).all (fun q => decide (tables_1[q.2.2]? = some (.methodLink (ra_cn 15) q.1 (ra_mt q.2.1).2.1))) = true := by decide +kernel
def ra_isAt (p : Nat) (w : Cond) : Bool := decide (lw_tbl[p]? = some w) && goodWord w
theorem ra_isAt_ok {p : Nat} {w : Cond} (h : ra_isAt p w = true) : w ∈ ra_tb := by
  unfold ra_isAt at h
  simp only [Bool.and_eq_true, decide_eq_true_eq] at h
  exact List.mem_filter.mpr ⟨List.mem_of_getElem? h.1, h.2⟩
def ra_mokb (M : ra_M) : Bool := decide (ra_cn M.1 = M.2.1.cls) && (plainFor M.2.1 && (decide (M.2.1.cls ≠ "java/lang/invoke/MethodHandle" ∧ M.2.1.cls ≠ "java/lang/invoke/VarHandle") && decide ((parseMethodDescriptor M.2.1.desc).map (fun d => d.parameters.length) = some M.2.2.2.2.1.2)))
def ra_cokb (M : ra_M) (p1 p2 p3 p4 : Nat) : Bool := ra_isAt p1 (Cond.code M.2.1 M.2.2.1 M.2.2.2.1.1 M.2.2.2.1.2) && (ra_isAt p2 (Cond.initialized M.2.1.cls) && (match M.2.2.2.2.1.1 with
  | true => ra_isAt p3 (Cond.static M.2.1)
  | false => ra_isAt p3 (Cond.instanceMethod M.2.1) && (ra_isAt p4 (Cond.selects M.2.1.cls M.2.1 M.2.1) && (match vwCl[M.1]? with
    | some q => decide (q.1 = M.2.1.cls)
    | none => false))))
def ra_chkR (M : ra_M) (a n : Nat) : Bool := (List.range n).all (fun k => match M.2.2.2.2.2.2 (a + k) with
  | some e => ra_eok M (a + k) e
  | none => true)
theorem ra_mok_of {M : ra_M} {n : Nat} (h1 : ra_mokb M = true) (h2 : ra_chk M n = true) (hn : ∀ pc, n ≤ pc → M.2.2.2.2.2.2 pc = none) : ra_mok M := by
  unfold ra_mokb at h1
  simp only [Bool.and_eq_true, decide_eq_true_eq] at h1
  exact ⟨h1.1, h1.2.1, h1.2.2.1, h1.2.2.2, ra_chk_ok h2 hn⟩
theorem ra_cok_of {M : ra_M} {n p1 p2 p3 p4 : Nat} (h1 : (ra_mokb M && (ra_cokb M p1 p2 p3 p4 && ra_chk M n)) = true) (hn : ∀ pc, n ≤ pc → M.2.2.2.2.2.2 pc = none) : ra_cok M := by
  simp only [Bool.and_eq_true] at h1
  obtain ⟨a, b, c⟩ := h1
  unfold ra_cokb at b
  simp only [Bool.and_eq_true] at b
  obtain ⟨b1, b2, b3⟩ := b
  refine ⟨ra_mok_of a c hn, ra_isAt_ok b1, ra_isAt_ok b2, fun hs => ?_, fun hs => ?_⟩
  · rw [hs] at b3; exact ra_isAt_ok b3
  · rw [hs] at b3
    simp only [Bool.and_eq_true] at b3
    obtain ⟨c1, c2, c3⟩ := b3
    refine ⟨ra_isAt_ok c1, ra_isAt_ok c2, ?_⟩
    split at c3
    · rename_i q hq; exact ⟨q, hq, of_decide_eq_true c3⟩
    · cases c3
