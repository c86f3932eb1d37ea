-- ===== String.length and String.charAt of the text of the words =====
def rp_sQ (v : Int32) : Array Value → State → Outcome → State → Prop := va_Qi (S := Unit) (fun r _ => r = v) (fun _ _ => True) (fun _ : Nat => False)
def rp_sV : Array Value → State → Outcome → State → Prop := va_Qv (S := Unit) (fun _ => True) (fun _ _ => True) (fun _ : Nat => False)
def rp_SM (l : Launch) (y : MethodName) (cc : ByteArray) (maxL : Nat) (ret : Option FieldType) (rm : Room) (N0 sk sv : Nat) (as : List Value) (Qc : Array Value → State → Outcome → State → Prop) : Prop :=
  Met l y (Cond.code y cc maxL ret :: ra_tb) rm (va_Pc as (fun U => rp_Z N0 sk sv U U.heap)) Qc 0 0 (fun _ : Nat => False)
theorem rp_sblind {N0 sk sv : Nat} {av : List Value} : FrameBlind (va_Pc av (fun U => rp_Z N0 sk sv U U.heap)) := by
  intro a U g mk q
  exact ⟨q.1, rp_Z.same (u := U) (U := U.calling g mk a) rfl q.2⟩
theorem rp_sstart {l : Launch} {y : MethodName} {cc : ByteArray} {maxL : Nat} {ret : Option FieldType} {rm : Room} {N0 sk sv : Nat} {as : List Value} {Qc : Array Value → State → Outcome → State → Prop} (hy : plainFor y = true) (hcat : (lg_sl as).length ≤ maxL)
    (body : ∀ (p : Program) (e : Env) (s : State) (m : MethodId) (args : Array Value) (below : List Frame) (meth : Method) (c : Code) (ls : Array Slot), p.tables.exec = Jvm.exec → c.code = cc → c.maxLocals = maxL → s.vm.findClass y.cls = some m.cls → (∀ w ∈ ra_tb, w.before args s = true) → rp_Z N0 sk sv s s.heap → meth.sig.returnType = ret → meth.locks = false → lv_has ls maxL (lv_args 0 as) → va_S (fun _ : Nat => False) s.heap s.heap [] →
      W p l e rm s m args below meth c s.heap [] 0 0 (MQ below Qc args s 0 0 (fun _ : Nat => False)) (F0 m 0 ls [])) : rp_SM l y cc maxL ret rm N0 sk sv as Qc := by
  refine ra_ofW (cc := cc) (maxL := maxL) (ret := ret) hy rfl ?_
  intro p e s m args below meth c s₁ B hml hv
  obtain ⟨rfl, hZ⟩ := hv
  have hts0 := atoms_spec (ws := Cond.code y cc maxL ret :: ra_tb) B.pre
  have hle := lv_entry as (n := maxL) hcat
  rw [lg_entry_eq]
  generalize (lg_sl as ++ List.replicate (maxL - (lg_sl as).length) Slot.unset).toArray = ls at hle ⊢
  exact body p e s m _ below meth c ls B.exec B.bytes hml (findClass_of_methodNamed B.named) (fun w hw => hts0 w (List.mem_cons_of_mem _ hw)) hZ B.returns B.notSynchronized hle va_S.rf
theorem rp_weak {A : Nat → Prop} {H0 H : Heap} {locs : List Loc} (h : va_S (fun _ : Nat => False) H0 H locs) : va_S A H0 H locs := ⟨h.1, fun q h1 _ => h.2.1 q h1 (fun z => z), fun q hq => (h.2.2 q hq).elim⟩
section RPS
variable {p : Program} {l : Launch} {e : Env} {R : Room} {s : State} {m : MethodId} {args : Array Value} {below : List Frame} {meth : Method} {c : Code} {H : Heap} {locs : List Loc} {cells slots : Nat} {Q : State → Prop}
variable {own : String} {cc : ByteArray} {nL : Nat} {N0 sk sv pc : Nat} {ls : Array Slot} {rest : List Value}
theorem rp_sret {v : Int32} {ty : FieldType} (hx : p.tables.exec = Jvm.exec) (hb : c.code = cc) (hr : meth.sig.returnType = some ty) (hlocks : meth.locks = false) (hn : narrow ty (.int v) = .int v) (hS : va_S (fun _ : Nat => False) s.heap H locs) (hdg : decode cc pc = .ok (.ireturn, 1)) :
    W p l e R s m args below meth c H locs cells slots (MQ below (rp_sQ v) args s cells slots (fun _ : Nat => False)) (F0 m pc ls [.int v]) :=
  W.zret hx hb hr hn (fun t ht hW => ⟨⟨v, (), rfl, rfl, trivial⟩, hS.F ht⟩) hS.2.2 hdg
theorem rp_svret (hx : p.tables.exec = Jvm.exec) (hb : c.code = cc) (hr : meth.sig.returnType = none) (hlocks : meth.locks = false) (hS : va_S (fun _ : Nat => False) s.heap H locs) (hdg : decode cc pc = .ok (.return_, 1)) :
    W p l e R s m args below meth c H locs cells slots (MQ below rp_sV args s cells slots (fun _ : Nat => False)) (F0 m pc ls []) :=
  W.vret hx hb hr (fun t ht hW => ⟨⟨(), rfl, trivial, trivial⟩, hS.F ht⟩) hS.2.2 hdg
theorem rp_runS {A0 : Nat → Prop} {y : MethodName} {bytes : ByteArray} {maxL n index : Nat} {ret : Option FieldType} {rm : Room} {as : List Value} {v : Int32} (hx : p.tables.exec = Jvm.exec) (hb : c.code = cc) (hml : c.maxLocals = nL) (hown : s.vm.findClass own = some m.cls) (hts : ∀ w ∈ ra_tb, w.before args s = true) (hZ : rp_Z N0 sk sv s s.heap) (hS : va_S A0 s.heap H locs) (hA : ∀ q, A0 q → N0 ≤ q)
    (hM : rp_SM l y bytes maxL ret rm N0 sk sv as (rp_sQ v)) (hcode : Cond.code y bytes maxL ret ∈ ra_tb) (hini : Cond.initialized y.cls ∈ ra_tb) (hlk : Cond.methodLink own index y ∈ ra_tb) (hst : Cond.static y ∈ ra_tb) (hd : y.cls ≠ "java/lang/invoke/MethodHandle" ∧ y.cls ≠ "java/lang/invoke/VarHandle" ∧ (parseMethodDescriptor y.desc).map (fun d => d.parameters.length) = some n) (hrm : rm.cells = 0 ∧ rm.slots = 0) (hR : rm.frames + 1 ≤ R.frames ∧ 8 + (maxL + 11) + rm.locals ≤ R.locals)
    (hsize : ls.size = nL) (hn : as.length = n) (hrest : (rest.map fun v => v.category).sum ≤ 8) (hdg : decode cc pc = .ok (.invokestatic index, 3)) (hf : cells + 0 ≤ R.cells ∧ slots + 0 ≤ R.slots)
    (kk : ∀ (H1 : Heap) (locs1 : List Loc), H.size ≤ H1.size → (∀ q : Nat, q < H.size → H1[q]? = H[q]?) → va_S A0 s.heap H1 locs1 → W p l e R s m args below meth c H1 locs1 cells slots Q (F0 m (pc + 3) ls (.int v :: rest))) : W p l e R s m args below meth c H locs cells slots Q (F0 m pc ls (as.reverse ++ rest)) := by
  refine va_calli (S := Unit) (post := fun r _ => r = v) (B := fun _ _ => True) (A1 := fun _ : Nat => False) (a := as.toArray) (free := fun _ : Nat => False) (rest := rest)
    (va_runS (As := as) (rest := rest) (own := own) ⟨hx, hb, hml, hown, hts⟩ hM ⟨callB_of n hts (rp_good hcode) rfl hrm.1 hrm.2 (hts _ hini) (hts _ hlk) hd hR, hts _ hst⟩ ⟨rp_sblind, fun U hU hW => ⟨rfl, by show rp_Z N0 sk sv U U.heap; rw [hU]; exact (hZ.kept (fun a h1 h2 => hS.2.1 a h1 (fun z => h2 (hA a z)))).warm hW⟩⟩ rfl hn hsize rfl (lv_room hrest) hdg hf)
    hS (fun q _ h => h.elim) (fun q h => h.elim) (fun r u t H1 locs1 ht hvm hw hB hz hk hS1 => ?_)
  subst hw
  exact kk H1 locs1 hz (fun q hq => hk q hq (fun z => z)) hS1
theorem rp_runSv {A0 : Nat → Prop} {y : MethodName} {bytes : ByteArray} {maxL n index : Nat} {rm : Room} {as : List Value} (hx : p.tables.exec = Jvm.exec) (hb : c.code = cc) (hml : c.maxLocals = nL) (hown : s.vm.findClass own = some m.cls) (hts : ∀ w ∈ ra_tb, w.before args s = true) (hZ : rp_Z N0 sk sv s s.heap) (hS : va_S A0 s.heap H locs) (hA : ∀ q, A0 q → N0 ≤ q)
    (hM : rp_SM l y bytes maxL none rm N0 sk sv as rp_sV) (hcode : Cond.code y bytes maxL none ∈ ra_tb) (hini : Cond.initialized y.cls ∈ ra_tb) (hlk : Cond.methodLink own index y ∈ ra_tb) (hst : Cond.static y ∈ ra_tb) (hd : y.cls ≠ "java/lang/invoke/MethodHandle" ∧ y.cls ≠ "java/lang/invoke/VarHandle" ∧ (parseMethodDescriptor y.desc).map (fun d => d.parameters.length) = some n) (hrm : rm.cells = 0 ∧ rm.slots = 0) (hR : rm.frames + 1 ≤ R.frames ∧ 8 + (maxL + 11) + rm.locals ≤ R.locals)
    (hsize : ls.size = nL) (hn : as.length = n) (hrest : (rest.map fun v => v.category).sum ≤ 8) (hdg : decode cc pc = .ok (.invokestatic index, 3)) (hf : cells + 0 ≤ R.cells ∧ slots + 0 ≤ R.slots)
    (kk : ∀ (H1 : Heap) (locs1 : List Loc), H.size ≤ H1.size → (∀ q : Nat, q < H.size → H1[q]? = H[q]?) → va_S A0 s.heap H1 locs1 → W p l e R s m args below meth c H1 locs1 cells slots Q (F0 m (pc + 3) ls rest)) : W p l e R s m args below meth c H locs cells slots Q (F0 m pc ls (as.reverse ++ rest)) := by
  refine va_callv (S := Unit) (post := fun _ => True) (B := fun _ _ => True) (A1 := fun _ : Nat => False) (a := as.toArray) (free := fun _ : Nat => False) (rest := rest)
    (va_runS (As := as) (rest := rest) (own := own) ⟨hx, hb, hml, hown, hts⟩ hM ⟨callB_of n hts (rp_good hcode) rfl hrm.1 hrm.2 (hts _ hini) (hts _ hlk) hd hR, hts _ hst⟩ ⟨rp_sblind, fun U hU hW => ⟨rfl, by show rp_Z N0 sk sv U U.heap; rw [hU]; exact (hZ.kept (fun a h1 h2 => hS.2.1 a h1 (fun z => h2 (hA a z)))).warm hW⟩⟩ rfl hn hsize rfl (lv_room hrest) hdg hf)
    hS (fun q _ h => h.elim) (fun q h => h.elim) (fun u t H1 locs1 ht hvm hw hB hz hk hS1 => ?_)
  exact kk H1 locs1 hz (fun q hq => hk q hq (fun z => z)) hS1
theorem rp_runV {A0 : Nat → Prop} {y : MethodName} {bytes : ByteArray} {maxL n index : Nat} {ret : Option FieldType} {rm : Room} {as : List Value} {v : Int32} (hx : p.tables.exec = Jvm.exec) (hb : c.code = cc) (hml : c.maxLocals = nL) (hown : s.vm.findClass own = some m.cls) (hts : ∀ w ∈ ra_tb, w.before args s = true) (hZ : rp_Z N0 sk sv s s.heap) (hS : va_S A0 s.heap H locs) (hA : ∀ q, A0 q → N0 ≤ q)
    (hM : rp_SM l y bytes maxL ret rm N0 sk sv (.ref sk :: as) (rp_sQ v)) (hC : y.cls = "java/lang/String") (hcode : Cond.code y bytes maxL ret ∈ ra_tb) (hini : Cond.initialized y.cls ∈ ra_tb) (hlk : Cond.methodLink own index y ∈ ra_tb) (hins : Cond.instanceMethod y ∈ ra_tb) (hsel : Cond.selects "java/lang/String" y y ∈ ra_tb) (hd : y.cls ≠ "java/lang/invoke/MethodHandle" ∧ y.cls ≠ "java/lang/invoke/VarHandle" ∧ (parseMethodDescriptor y.desc).map (fun d => d.parameters.length) = some n) (hrm : rm.cells = 0 ∧ rm.slots = 0) (hR : rm.frames + 1 ≤ R.frames ∧ 8 + (maxL + 11) + rm.locals ≤ R.locals)
    (hsize : ls.size = nL) (hn : as.length = n) (hrest : (rest.map fun v => v.category).sum ≤ 8) (hdg : decode cc pc = .ok (.invokevirtual index, 3)) (hf : cells + 0 ≤ R.cells ∧ slots + 0 ≤ R.slots)
    (kk : ∀ (H1 : Heap) (locs1 : List Loc), H.size ≤ H1.size → (∀ q : Nat, q < H.size → H1[q]? = H[q]?) → va_S A0 s.heap H1 locs1 → W p l e R s m args below meth c H1 locs1 cells slots Q (F0 m (pc + 3) ls (.int v :: rest))) : W p l e R s m args below meth c H locs cells slots Q (F0 m pc ls (as.reverse ++ .ref sk :: rest)) := by
  have hS' : va_S (fun q : Nat => N0 ≤ q) s.heap H locs := ⟨hS.1, fun q h1 h2 => hS.2.1 q h1 (fun z => h2 (hA q z)), fun q hq => hA _ (hS.2.2 q hq)⟩
  refine va_calli (S := Unit) (post := fun r _ => r = v) (B := fun _ _ => True) (A1 := fun _ : Nat => False) (a := (.ref sk :: as : List Value).toArray) (free := fun _ : Nat => False) (rest := rest)
    (va_runV (As := as) (rest := rest) (own := own) (C := "java/lang/String") (b := sk) ⟨hx, hb, hml, hown, hts⟩ hM ⟨callB_of n hts (rp_good hcode) rfl hrm.1 hrm.2 (hts _ hini) (hts _ hlk) hd hR, hts _ hins, hts _ hsel⟩ ⟨rp_sblind, vk_recv hZ.2.1 (i := 0) (by decide) hS', fun U hU hW => ⟨rfl, by show rp_Z N0 sk sv U U.heap; rw [hU]; exact (hZ.kept (fun a h1 h2 => hS.2.1 a h1 (fun z => h2 (hA a z)))).warm hW⟩⟩ rfl hn hsize rfl (lv_room hrest) hdg hf)
    hS (fun q _ h => h.elim) (fun q h => h.elim) (fun r u t H1 locs1 ht hvm hw hB hz hk hS1 => ?_)
  subst hw
  exact kk H1 locs1 hz (fun q hq => hk q hq (fun z => z)) hS1
end RPS
def rp_rS (f n : Nat) : Room := { frames := f, cells := 0, slots := 0, locals := n }
theorem rp_s_pre (l : Launch) (N0 sk sv : Nat) {k : Nat} (hk : k < 63) {w : Value} (hw : w = .null ∨ ∃ t : Nat, w = .ref t) : rp_SM l yJ3_checkIndex_8e157 cJ3_checkIndex_8e157 3 (some .int) (rp_rS 0 0) N0 sk sv [.int (nI k), .int 63, w] (rp_sQ (nI k)) := by
  have hcw : w.category = 1 := by rcases hw with rfl | ⟨t, rfl⟩ <;> rfl
  refine rp_sstart (by decide +kernel) (by rcases hw with rfl | ⟨t, rfl⟩ <;> exact Nat.le_of_ble_eq_true rfl) ?_
  intro p e s m args below meth c ls hx hb hml hown hts hZ hr hlocks hl hS
  refine lv_iload_n hx hb (by decide +kernel : decode cJ3_checkIndex_8e157 0 = .ok (.iload_n 0, 1)) rfl (lv_at hl 0 rfl) ?_
  refine lv_if_lt (tgt := 9) hx hb (by decide +kernel : decode cJ3_checkIndex_8e157 1 = .ok (.ifCond .lt 8, 3)) rfl (fun z => absurd z (nI_pos (by omega))) (fun _ => ?_)
  refine lv_iload_n hx hb (by decide +kernel : decode cJ3_checkIndex_8e157 4 = .ok (.iload_n 0, 1)) rfl (lv_at hl 0 rfl) ?_
  refine lv_iload_n hx hb (by decide +kernel : decode cJ3_checkIndex_8e157 5 = .ok (.iload_n 1, 1)) rfl (lv_at hl 1 rfl) ?_
  refine lv_icmp_lt (tgt := 16) hx hb (by decide +kernel : decode cJ3_checkIndex_8e157 6 = .ok (.if_icmp .lt 10, 3)) rfl (fun _ => ?_) (fun z => absurd (nI_lt (a := k) (b := 63) hk (by omega)) z)
  refine lv_iload_n hx hb (by decide +kernel : decode cJ3_checkIndex_8e157 16 = .ok (.iload_n 0, 1)) rfl (lv_at hl 0 rfl) ?_
  exact rp_sret hx hb hr hlocks rfl hS (by decide +kernel)
theorem rp_s_chk (l : Launch) (N0 sk sv : Nat) {k : Nat} (hk : k < 63) : rp_SM l yJ0_checkIndex_df160 cJ0_checkIndex_df160 2 none (rp_rS 1 22) N0 sk sv [.int (nI k), .int 63] rp_sV := by
  refine rp_sstart (by decide +kernel) (Nat.le_of_ble_eq_true rfl) ?_
  intro p e s m args below meth c ls hx hb hml hown hts hZ hr hlocks hl hS
  refine lv_iload_n hx hb (by decide +kernel : decode cJ0_checkIndex_df160 0 = .ok (.iload_n 0, 1)) rfl (lv_at hl 0 rfl) ?_
  refine lv_iload_n hx hb (by decide +kernel : decode cJ0_checkIndex_df160 1 = .ok (.iload_n 1, 1)) rfl (lv_at hl 1 rfl) ?_
  have go : ∀ w : Value, (w = .null ∨ ∃ t : Nat, w = .ref t) → W p l e (rp_rS 1 22) s m args below meth c s.heap [] 0 0 (MQ below rp_sV args s 0 0 (fun _ : Nat => False)) (F0 m 5 ls [w, .int 63, .int (nI k)]) := by
    intro w hw
    refine rp_runS (index := 1059) (A0 := fun _ : Nat => False) (as := [.int (nI k), .int 63, w]) (rest := []) (n := 3) hx hb hml hown hts hZ hS (fun q h => h.elim) (rp_s_pre l N0 sk sv hk hw) (ra_tb_of (List.mem_of_getElem? (i := 75) (by decide +kernel)) rfl) (ra_tb_of (List.mem_of_getElem? (i := 6) (by decide +kernel)) rfl) (ra_tb_of (List.mem_of_getElem? (i := 73) (by decide +kernel)) rfl) (ra_tb_of (List.mem_of_getElem? (i := 74) (by decide +kernel)) rfl) (by decide +kernel) ⟨rfl, rfl⟩ ⟨Nat.le_of_ble_eq_true rfl, Nat.le_of_ble_eq_true rfl⟩ hl.1 rfl (Nat.zero_le _) (by decide +kernel) ⟨Nat.le_refl _, Nat.le_refl _⟩ (fun H1 locs1 _ _ hS1 => ?_)
    refine lv_pop hx hb (by decide +kernel : decode cJ0_checkIndex_df160 8 = .ok (.pop, 1)) rfl ?_
    exact rp_svret hx hb hr hlocks hS1 (by decide +kernel)
  rcases hZ.2.2.2 with h | ⟨t, h⟩
  · exact va_gets (index := 1053) (v := .null) hx hb h (rp_weak hS) hown (hts _ (ra_tb_of (List.mem_of_getElem? (i := 71) (by decide +kernel)) rfl)) (fun _ h => h) (by decide +kernel) (go _ (Or.inl rfl))
  · exact va_gets (index := 1053) (v := .ref t) hx hb h (rp_weak hS) hown (hts _ (ra_tb_of (List.mem_of_getElem? (i := 71) (by decide +kernel)) rfl)) (fun _ h => h) (by decide +kernel) (go _ (Or.inr ⟨t, rfl⟩))
theorem rp_s_lat (l : Launch) (N0 sk sv : Nat) {k : Nat} (hk : k < 63) : rp_SM l yJ1_charAt_3b067 cJ1_charAt_3b067 2 (some .char) (rp_rS 2 43) N0 sk sv [.ref sv, .int (nI k)] (rp_sQ (rp_byt.getD k 0 &&& 255)) := by
  refine rp_sstart (by decide +kernel) (Nat.le_of_ble_eq_true rfl) ?_
  intro p e s m args below meth c ls hx hb hml hown hts hZ hr hlocks hl hS
  have hT := (hZ.2.1.1 0 (by decide)).2.2.2
  refine lv_iload_n hx hb (by decide +kernel : decode cJ1_charAt_3b067 0 = .ok (.iload_n 1, 1)) rfl (lv_at hl 1 rfl) ?_
  refine lv_aload_n hx hb (by decide +kernel : decode cJ1_charAt_3b067 1 = .ok (.aload_n 0, 1)) rfl (lv_at hl 0 rfl) ?_
  refine va_tlen (v := 63) hx hb hT (rp_weak hS) rfl (by decide +kernel) ?_
  refine rp_runSv (index := 9) (A0 := fun _ : Nat => False) (as := [.int (nI k), .int 63]) (rest := []) (n := 2) hx hb hml hown hts hZ hS (fun q h => h.elim) (rp_s_chk l N0 sk sv hk) (ra_tb_of (List.mem_of_getElem? (i := 70) (by decide +kernel)) rfl) (ra_tb_of (List.mem_of_getElem? (i := 4) (by decide +kernel)) rfl) (ra_tb_of (List.mem_of_getElem? (i := 68) (by decide +kernel)) rfl) (ra_tb_of (List.mem_of_getElem? (i := 69) (by decide +kernel)) rfl) (by decide +kernel) ⟨rfl, rfl⟩ ⟨Nat.le_of_ble_eq_true rfl, Nat.le_of_ble_eq_true rfl⟩ hl.1 rfl (Nat.zero_le _) (by decide +kernel) ⟨Nat.le_refl _, Nat.le_refl _⟩ (fun H1 locs1 _ _ hS1 => ?_)
  refine lv_aload_n hx hb (by decide +kernel : decode cJ1_charAt_3b067 6 = .ok (.aload_n 0, 1)) rfl (lv_at hl 0 rfl) ?_
  refine lv_iload_n hx hb (by decide +kernel : decode cJ1_charAt_3b067 7 = .ok (.iload_n 1, 1)) rfl (lv_at hl 1 rfl) ?_
  refine va_tb (v := .int (rp_byt.getD k 0)) hx hb hT (rp_weak hS1) (show vp_in (nI k) 63 from vp_in_nI hk (by omega)) (by rw [nI_clamp (by omega)]; rfl) (by decide +kernel) ?_
  refine lv_sipush (v := 255) hx hb (by decide +kernel : decode cJ1_charAt_3b067 9 = .ok (.sipush 255, 3)) (by decide) ?_
  refine lv_iand hx hb (by decide +kernel) ?_
  refine lv_i2c hx hb (by decide +kernel) (sc_c2 _) ?_
  exact rp_sret hx hb hr hlocks (sc_nar _) hS1 (by decide +kernel)
theorem rp_s_isl (l : Launch) (N0 sk sv : Nat) : rp_SM l yJ0_isLatin1_aae02 cJ0_isLatin1_aae02 1 (some .boolean) (rp_rS 0 0) N0 sk sv [.ref sk] (rp_sQ 1) := by
  refine rp_sstart (by decide +kernel) (Nat.le_of_ble_eq_true rfl) ?_
  intro p e s m args below meth c ls hx hb hml hown hts hZ hr hlocks hl hS
  refine va_gets (index := 38) (v := .int 1) hx hb hZ.2.2.1 (rp_weak hS) hown (hts _ (ra_tb_of (List.mem_of_getElem? (i := 55) (by decide +kernel)) rfl)) (fun _ h => h) (by decide +kernel) ?_
  refine lv_if_eq (tgt := 17) hx hb (by decide +kernel : decode cJ0_isLatin1_aae02 3 = .ok (.ifCond .eq 14, 3)) rfl (fun z => absurd z (by decide)) (fun _ => ?_)
  refine lv_aload_n hx hb (by decide +kernel : decode cJ0_isLatin1_aae02 6 = .ok (.aload_n 0, 1)) rfl (lv_at hl 0 rfl) ?_
  refine vk_getf (index := 15) (v := .int 0) hx hb (hZ.2.1.1 0 (by decide)).2.1 (rp_weak hS) hown (hts _ (ra_tb_of (List.mem_of_getElem? (i := 1878) (by decide +kernel)) rfl)) (fun _ h => h) (by decide +kernel) ?_
  refine lv_if_ne (tgt := 17) hx hb (by decide +kernel : decode cJ0_isLatin1_aae02 10 = .ok (.ifCond .ne 7, 3)) rfl (fun z => absurd rfl z) (fun _ => ?_)
  refine lv_iconst (v := 1) hx hb (by decide +kernel : decode cJ0_isLatin1_aae02 13 = .ok (.iconst 1, 1)) (by decide) ?_
  refine lv_goto (tgt := 18) hx hb (by decide +kernel : decode cJ0_isLatin1_aae02 14 = .ok (.goto 4, 3)) rfl ?_
  exact rp_sret hx hb hr hlocks rfl hS (by decide +kernel)
theorem rp_s_cod (l : Launch) (N0 sk sv : Nat) : rp_SM l yJ0_coder_7d493 cJ0_coder_7d493 1 (some .byte) (rp_rS 0 0) N0 sk sv [.ref sk] (rp_sQ 0) := by
  refine rp_sstart (by decide +kernel) (Nat.le_of_ble_eq_true rfl) ?_
  intro p e s m args below meth c ls hx hb hml hown hts hZ hr hlocks hl hS
  refine va_gets (index := 38) (v := .int 1) hx hb hZ.2.2.1 (rp_weak hS) hown (hts _ (ra_tb_of (List.mem_of_getElem? (i := 55) (by decide +kernel)) rfl)) (fun _ h => h) (by decide +kernel) ?_
  refine lv_if_eq (tgt := 13) hx hb (by decide +kernel : decode cJ0_coder_7d493 3 = .ok (.ifCond .eq 10, 3)) rfl (fun z => absurd z (by decide)) (fun _ => ?_)
  refine lv_aload_n hx hb (by decide +kernel : decode cJ0_coder_7d493 6 = .ok (.aload_n 0, 1)) rfl (lv_at hl 0 rfl) ?_
  refine vk_getf (index := 15) (v := .int 0) hx hb (hZ.2.1.1 0 (by decide)).2.1 (rp_weak hS) hown (hts _ (ra_tb_of (List.mem_of_getElem? (i := 1878) (by decide +kernel)) rfl)) (fun _ h => h) (by decide +kernel) ?_
  refine lv_goto (tgt := 14) hx hb (by decide +kernel : decode cJ0_coder_7d493 10 = .ok (.goto 4, 3)) rfl ?_
  exact rp_sret hx hb hr hlocks rfl hS (by decide +kernel)
theorem rp_s_len (l : Launch) (N0 sk sv : Nat) : rp_SM l yJ0_length_8abf5 cJ0_length_8abf5 1 (some .int) (rp_rS 1 20) N0 sk sv [.ref sk] (rp_sQ 63) := by
  refine rp_sstart (by decide +kernel) (Nat.le_of_ble_eq_true rfl) ?_
  intro p e s m args below meth c ls hx hb hml hown hts hZ hr hlocks hl hS
  refine lv_aload_n hx hb (by decide +kernel : decode cJ0_length_8abf5 0 = .ok (.aload_n 0, 1)) rfl (lv_at hl 0 rfl) ?_
  refine vk_getf (index := 9) (v := .ref sv) hx hb (hZ.2.1.1 0 (by decide)).2.2.1 (rp_weak hS) hown (hts _ (ra_tb_of (List.mem_of_getElem? (i := 1877) (by decide +kernel)) rfl)) (fun _ h => h) (by decide +kernel) ?_
  refine va_tlen (v := 63) hx hb (hZ.2.1.1 0 (by decide)).2.2.2 (rp_weak hS) rfl (by decide +kernel) ?_
  refine lv_aload_n hx hb (by decide +kernel : decode cJ0_length_8abf5 5 = .ok (.aload_n 0, 1)) rfl (lv_at hl 0 rfl) ?_
  refine rp_runV (index := 335) (A0 := fun _ : Nat => False) (as := []) (rest := [.int 63]) (n := 0) hx hb hml hown hts hZ hS (fun q h => h.elim) (rp_s_cod l N0 sk sv) rfl (ra_tb_of (List.mem_of_getElem? (i := 54) (by decide +kernel)) rfl) (ra_tb_of (List.mem_of_getElem? (i := 4) (by decide +kernel)) rfl) (ra_tb_of (List.mem_of_getElem? (i := 51) (by decide +kernel)) rfl) (ra_tb_of (List.mem_of_getElem? (i := 52) (by decide +kernel)) rfl) (ra_tb_of (List.mem_of_getElem? (i := 53) (by decide +kernel)) rfl) (by decide +kernel) ⟨rfl, rfl⟩ ⟨Nat.le_of_ble_eq_true rfl, Nat.le_of_ble_eq_true rfl⟩ hl.1 rfl (Nat.le_of_ble_eq_true rfl) (by decide +kernel) ⟨Nat.le_refl _, Nat.le_refl _⟩ (fun H1 locs1 _ _ hS1 => ?_)
  refine lv_ishr hx hb (by decide +kernel) ?_
  exact rp_sret (v := (63 : Int32) >>> ((0 : Int32) &&& 31)) hx hb hr hlocks rfl hS1 (by decide +kernel)
theorem rp_s_char (l : Launch) (N0 sk sv : Nat) {k : Nat} (hk : k < 63) : rp_SM l yJ0_charAt_5068e cJ0_charAt_5068e 2 (some .char) (rp_rS 3 64) N0 sk sv [.ref sk, .int (nI k)] (rp_sQ (rp_byt.getD k 0 &&& 255)) := by
  refine rp_sstart (by decide +kernel) (Nat.le_of_ble_eq_true rfl) ?_
  intro p e s m args below meth c ls hx hb hml hown hts hZ hr hlocks hl hS
  refine lv_aload_n hx hb (by decide +kernel : decode cJ0_charAt_5068e 0 = .ok (.aload_n 0, 1)) rfl (lv_at hl 0 rfl) ?_
  refine rp_runV (index := 492) (A0 := fun _ : Nat => False) (as := []) (rest := []) (n := 0) hx hb hml hown hts hZ hS (fun q h => h.elim) (rp_s_isl l N0 sk sv) rfl (ra_tb_of (List.mem_of_getElem? (i := 64) (by decide +kernel)) rfl) (ra_tb_of (List.mem_of_getElem? (i := 4) (by decide +kernel)) rfl) (ra_tb_of (List.mem_of_getElem? (i := 61) (by decide +kernel)) rfl) (ra_tb_of (List.mem_of_getElem? (i := 62) (by decide +kernel)) rfl) (ra_tb_of (List.mem_of_getElem? (i := 63) (by decide +kernel)) rfl) (by decide +kernel) ⟨rfl, rfl⟩ ⟨Nat.le_of_ble_eq_true rfl, Nat.le_of_ble_eq_true rfl⟩ hl.1 rfl (Nat.zero_le _) (by decide +kernel) ⟨Nat.le_refl _, Nat.le_refl _⟩ (fun H1 locs1 _ _ hS1 => ?_)
  refine lv_if_eq (tgt := 16) hx hb (by decide +kernel : decode cJ0_charAt_5068e 4 = .ok (.ifCond .eq 12, 3)) rfl (fun z => absurd z (by decide)) (fun _ => ?_)
  refine lv_aload_n hx hb (by decide +kernel : decode cJ0_charAt_5068e 7 = .ok (.aload_n 0, 1)) rfl (lv_at hl 0 rfl) ?_
  refine vk_getf (index := 9) (v := .ref sv) hx hb (hZ.2.1.1 0 (by decide)).2.2.1 (rp_weak hS1) hown (hts _ (ra_tb_of (List.mem_of_getElem? (i := 1877) (by decide +kernel)) rfl)) (fun _ h => h) (by decide +kernel) ?_
  refine lv_iload_n hx hb (by decide +kernel : decode cJ0_charAt_5068e 11 = .ok (.iload_n 1, 1)) rfl (lv_at hl 1 rfl) ?_
  refine rp_runS (index := 495) (A0 := fun _ : Nat => False) (as := [.ref sv, .int (nI k)]) (rest := []) (n := 2) hx hb hml hown hts hZ hS1 (fun q h => h.elim) (rp_s_lat l N0 sk sv hk) (ra_tb_of (List.mem_of_getElem? (i := 67) (by decide +kernel)) rfl) (ra_tb_of (List.mem_of_getElem? (i := 5) (by decide +kernel)) rfl) (ra_tb_of (List.mem_of_getElem? (i := 65) (by decide +kernel)) rfl) (ra_tb_of (List.mem_of_getElem? (i := 66) (by decide +kernel)) rfl) (by decide +kernel) ⟨rfl, rfl⟩ ⟨Nat.le_of_ble_eq_true rfl, Nat.le_of_ble_eq_true rfl⟩ hl.1 rfl (Nat.zero_le _) (by decide +kernel) ⟨Nat.le_refl _, Nat.le_refl _⟩ (fun H2 locs2 _ _ hS2 => ?_)
  exact rp_sret hx hb hr hlocks (sc_nar _) hS2 (by decide +kernel)
