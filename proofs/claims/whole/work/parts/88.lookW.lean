-- ===== look on the machine: the class's method returns or throws; the law's method catches =====
def rz_xI : String := "java/lang/IndexOutOfBoundsException"
def rz_xN : String := "java/util/NoSuchElementException"
def rz_xs : List String := ["java/lang/RuntimeException", "java/lang/Exception"]
def rz_xR : String := "java/lang/RuntimeException"
def rz_xE : String := "java/lang/Exception"
/-- the constructor of NoSuchElementException with a text: aload_0, aload_1, invokespecial 13, return -/
def rz_sxb : ByteArray := ⟨#[0x2a, 0x2b, 0xb7, 0x00, 0x0d, 0xb1]⟩
/-- the words of its throw: as the library's list, but for its own link, which is the 13th entry of its pool -/
def rz_own (own : String) (ic : Nat) : List Cond :=
  Bundle.throwableAtoms ++ Bundle.throwableSAtoms ++ (Bundle.passSAtoms rz_xN rz_xR 13 rz_sxb ++ Bundle.chainSAtoms rz_xR [rz_xE]) ++
  [.methodLink own ic (Bundle.initS rz_xN), .instantiable rz_xN 6, .castable rz_xN rz_xN, .selects rz_xN Bundle.tFill0 Bundle.tFill0, .selects rz_xN Bundle.tFill Bundle.tFill,
   .lays rz_xN Bundle.tN "cause" "Ljava/lang/Throwable;", .lays rz_xN Bundle.tN "stackTrace" Bundle.steD, .lays rz_xN Bundle.tN "suppressedExceptions" Bundle.listD, .lays rz_xN Bundle.tN "detailMessage" "Ljava/lang/String;",
   .isRef (.static Bundle.tN "UNASSIGNED_STACK" Bundle.steD), .isRef (.static Bundle.tN "SUPPRESSED_SENTINEL" Bundle.listD),
   .fieldLink Bundle.tN 198 Bundle.tN "backtrace" "Ljava/lang/Object;", .lays Bundle.tN Bundle.tN "backtrace" "Ljava/lang/Object;", .lays rz_xN Bundle.tN "backtrace" "Ljava/lang/Object;"]
def rz_atN (own : String) (ic : Nat) : List Cond := (rz_own own ic).filter vx_no
theorem rz_xw0 : ∀ w ∈ (vx_atS RX11 137 rz_xI rz_xs).filter goodWord, w ∈ lw_tbl := by decide +kernel
theorem rz_xw1 : ∀ w ∈ (rz_atN RX11 168).filter goodWord, w ∈ lw_tbl := by decide +kernel
theorem rz_xb0 : ∀ w ∈ (vx_atS RX11 137 rz_xI rz_xs).filter (fun w => !goodWord w), w ∈ [Cond.castable rz_xI rz_xI, .declares (Bundle.initS rz_xR), .declares (Bundle.initS rz_xE), .declares (Bundle.initS Bundle.tN)] := by decide +kernel
theorem rz_xb1 : ∀ w ∈ (rz_atN RX11 168).filter (fun w => !goodWord w), w ∈ [Cond.castable rz_xN rz_xN, .declares (Bundle.initS rz_xR), .declares (Bundle.initS rz_xE), .declares (Bundle.initS Bundle.tN)] := by decide +kernel
theorem rz_xg0 : ∀ w ∈ Cond.classLink RX11 133 rz_xI :: Cond.initialized rz_xI :: vx_atS RX11 137 rz_xI rz_xs, vx_ot w = true := by decide +kernel
theorem rz_xg1 : ∀ w ∈ Cond.classLink RX11 164 rz_xN :: Cond.initialized rz_xN :: rz_atN RX11 168, vx_ot w = true := by decide +kernel
theorem rz_xk0 : Cond.classLink RX11 133 rz_xI ∈ ra_tb := ra_tb_of (List.mem_of_getElem? (i := 1167) (by decide +kernel)) rfl
theorem rz_xk1 : Cond.classLink RX11 164 rz_xN ∈ ra_tb := ra_tb_of (List.mem_of_getElem? (i := 1233) (by decide +kernel)) rfl
theorem rz_xi0 : Cond.initialized rz_xI ∈ ra_tb := ra_tb_of (List.mem_of_getElem? (i := 22) (by decide +kernel)) rfl
theorem rz_xi1 : Cond.initialized rz_xN ∈ ra_tb := ra_tb_of (List.mem_of_getElem? (i := 23) (by decide +kernel)) rfl
theorem rz_d8 : decode (ra_mt 81).2.2.1 8 = .ok (.new 133, 3) := by decide +kernel
theorem rz_d11 : decode (ra_mt 81).2.2.1 11 = .ok (.dup, 1) := by decide +kernel
theorem rz_d12 : decode (ra_mt 81).2.2.1 12 = .ok (.ldc 135, 2) := by decide +kernel
theorem rz_d14 : decode (ra_mt 81).2.2.1 14 = .ok (.invokespecial 137, 3) := by decide +kernel
theorem rz_d17 : decode (ra_mt 81).2.2.1 17 = .ok (.athrow, 1) := by decide +kernel
theorem rz_d137 : decode (ra_mt 81).2.2.1 137 = .ok (.new 164, 3) := by decide +kernel
theorem rz_d140 : decode (ra_mt 81).2.2.1 140 = .ok (.dup, 1) := by decide +kernel
theorem rz_d141 : decode (ra_mt 81).2.2.1 141 = .ok (.ldc 166, 2) := by decide +kernel
theorem rz_d143 : decode (ra_mt 81).2.2.1 143 = .ok (.invokespecial 168, 3) := by decide +kernel
theorem rz_d146 : decode (ra_mt 81).2.2.1 146 = .ok (.athrow, 1) := by decide +kernel
/-- what a throw needs of the machine, beside good words: casts, declared constructors, two texts, two statics of Throwable -/
def rz_Dc (U : State) : Prop := va_Nw (.declares (Bundle.initS rz_xR)) U ∧ va_Nw (.declares (Bundle.initS rz_xE)) U ∧ va_Nw (.declares (Bundle.initS Bundle.tN)) U
def rz_Xs (sa1 sa2 : Nat) (A : Nat → Prop) (U : State) (H : Heap) : Prop := va_Nw (.castable rz_xI rz_xI) U ∧ va_Nw (.castable rz_xN rz_xN) U ∧ va_Nc rz_xN rz_xI U ∧ vk_R RX11 135 "no such player" sa1 U ∧ vk_R RX11 166 "no such what" sa2 U ∧ vx_Zq Bundle.tN "UNASSIGNED_STACK" Bundle.steD A U H ∧ vx_Zq Bundle.tN "SUPPRESSED_SENTINEL" Bundle.listD A U H ∧ rz_Dc U
theorem rz_Xs.warm {sa1 sa2 : Nat} {A : Nat → Prop} {s U : State} {H : Heap} (hW : s.WarmedH U.vm) (h : rz_Xs sa1 sa2 A s H) : rz_Xs sa1 sa2 A U H :=
  ⟨va_Nw.warmC hW h.1, va_Nw.warmC hW h.2.1, va_Nc.moved hW.alike h.2.2.1, vk_R.warm hW h.2.2.2.1, vk_R.warm hW h.2.2.2.2.1, vx_Zq.moved hW.alike h.2.2.2.2.2.1, vx_Zq.moved hW.alike h.2.2.2.2.2.2.1, va_Nw.warmD hW h.2.2.2.2.2.2.2.1, va_Nw.warmD hW h.2.2.2.2.2.2.2.2.1, va_Nw.warmD hW h.2.2.2.2.2.2.2.2.2⟩
theorem rz_Xs.kept {sa1 sa2 : Nat} {A : Nat → Prop} {U : State} {H H1 : Heap} (h : rz_Xs sa1 sa2 A U H) (hq : ∀ a : Nat, a < H.size → ¬ A a → H1[a]? = H[a]?) : rz_Xs sa1 sa2 A U H1 :=
  ⟨h.1, h.2.1, h.2.2.1, h.2.2.2.1, h.2.2.2.2.1, vx_Zq.kept h.2.2.2.2.2.1 hq, vx_Zq.kept h.2.2.2.2.2.2.1 hq, h.2.2.2.2.2.2.2⟩
theorem rz_Xs.narrow {sa1 sa2 : Nat} {A B : Nat → Prop} {U : State} {H : Heap} (h : rz_Xs sa1 sa2 A U H) (hAB : ∀ q, B q → A q) : rz_Xs sa1 sa2 B U H :=
  ⟨h.1, h.2.1, h.2.2.1, h.2.2.2.1, h.2.2.2.2.1, vx_Zq.narrow h.2.2.2.2.2.1 hAB, vx_Zq.narrow h.2.2.2.2.2.2.1 hAB, h.2.2.2.2.2.2.2⟩
theorem rz_Xs.same {sa1 sa2 : Nat} {A : Nat → Prop} {u U : State} {H : Heap} (hv : u.vm = U.vm) (h : rz_Xs sa1 sa2 A u H) : rz_Xs sa1 sa2 A U H := by
  have hal : u.vm.Alike U.vm := by rw [hv]; exact Vm.Alike.refl U.vm
  exact ⟨va_Nw.same rfl hv h.1, va_Nw.same rfl hv h.2.1, va_Nc.moved hal h.2.2.1, vk_R.same hv.symm h.2.2.2.1, vk_R.same hv.symm h.2.2.2.2.1, vx_Zq.moved hal h.2.2.2.2.2.1, vx_Zq.moved hal h.2.2.2.2.2.2.1, va_Nw.same rfl hv h.2.2.2.2.2.2.2.1, va_Nw.same rfl hv h.2.2.2.2.2.2.2.2.1, va_Nw.same rfl hv h.2.2.2.2.2.2.2.2.2⟩
theorem rz_Xs.dec {sa1 sa2 : Nat} {A : Nat → Prop} {U : State} {H : Heap} {args : Array Value} (h : rz_Xs sa1 sa2 A U H) : ∀ w ∈ [Cond.declares (Bundle.initS rz_xR), .declares (Bundle.initS rz_xE), .declares (Bundle.initS Bundle.tN)], w.before args U = true := by
  obtain ⟨h1, h2, h3⟩ := h.2.2.2.2.2.2.2
  exact vx_c (va_Nw.use rfl h1) (vx_c (va_Nw.use rfl h2) (vx_c (va_Nw.use rfl h3) vx_n))
section RZTN
variable {p : Program} {l : Launch} {e : Env} {R : Room} {s : State} {m : MethodId} {args : Array Value} {below : List Frame} {meth : Method} {c : Code} {T : State} {H : Heap} {locs : List Loc} {cells slots : Nat} {Q : State → Prop}
variable {mc ms : Nat} {free : Addr → Prop} {ls : Array Slot} {rest : List Value} {Qc : Array Value → State → Outcome → State → Prop} {XC : String → State → State → Prop}
theorem rz_sxb0 : decode rz_sxb 0 = .ok (.aload_n 0, 1) := by decide +kernel
theorem rz_sxb1 : decode rz_sxb 1 = .ok (.aload_n 1, 1) := by decide +kernel
theorem rz_sxb2 : decode rz_sxb 2 = .ok (.invokespecial 13, 3) := by decide +kernel
theorem rz_sxb5 : decode rz_sxb 5 = .ok (.return_, 1) := by decide +kernel
set_option maxHeartbeats 4000000 in
/-- the constructor of NoSuchElementException and the athrow behind it: out of the library's laws of Throwable, with this class's own link in front -/
theorem rz_ctorN (X : Stand p l e R s m args below meth c T locs cells slots) (hexec : p.tables.exec = Jvm.exec) (htr : e.platform.stackTraces = false) {own : String} {ic : Nat}
    (hown : s.vm.findClass own = some m.cls) (h : ∀ a ∈ rz_own own ic, a.before args s = true)
    (hlocs : ∀ x ∈ locs, ∀ cell, s.heap[x.base]? = some cell → cell.vm.isStatics = false)
    {a : Addr} {cX : ClassId} {kX : Class} (hfoundX : s.vm.findClass rz_xN = some cX) (hkX : s.vm.classes[cX]? = some kX) (hcell : T.heap[a]? = some (freshCell cX kX)) (hnew : s.heap.size ≤ a)
    {msg : Value} (hmsg : msg.isRef = true)
    {g : JFrame} (hg : g.method = m) (hsize : g.locals.size = c.maxLocals) (hlocked : g.locked = none) (hentered : g.entered = []) {rest : List Value} (hstack : g.stack = msg :: .ref a :: .ref a :: rest)
    (hd6 : decode c.code g.pc = .ok (.invokespecial ic, 3)) (hd9 : decode c.code (g.pc + 3) = .ok (.athrow, 1)) (hout : ∀ x ∈ c.exceptionTable.toList, covers x (g.pc + 3) = false)
    (hRframes : 5 < R.frames) (hRlocals : 2 * g.monitorRoom + ((Value.ref a :: rest).map fun v => v.category).sum + 81 ≤ R.locals) (hlocks : meth.locks = false) :
    ∃ U : State, Steps p.tables e below (T.setTop g) U ∧ U.status = .running ∧ Ended U below (.threw a) ∧ s.WarmedH U.vm ∧ s.sameButNew ({ U with vm := s.vm } : State) locs cells slots ∧
      ∃ ce, U.heap[a]? = some ce ∧ s.vm.findClass rz_xN = some ce.cls ∧ ce.vm = .none := by
  have howns : e.platform.frameOwnsMonitors = true := by rw [X.admits.platform]
  have hfin : e.platform.finalization = false := by rw [X.admits.platform]
  have hpl : e.platform.magicAccessors = ({} : Platform).magicAccessors := by rw [X.admits.platform]
  have a' : ∀ x, x ∈ rz_own own ic → x.holds args s none s [] = true := fun x hx => h x hx
  obtain ⟨T0, Z0, L, -, Y⟩ := ThrowableC.of_atoms (args := args) howns hfin hpl (fun x hx => h x (by simp [rz_own, hx]))
  obtain ⟨Z, M, LZ, LM, hnZ⟩ := Init0T.ofS_atoms (args := args) hpl L Y (fun x hx => h x (by simp [rz_own, hx]))
  obtain ⟨P1, L1, hP1m, hs1⟩ := PassC.ofS_atoms (args := args) (s := s) hpl (X := rz_xN) (Y := rz_xR) (index := 13) (bytes := rz_sxb) (by decide +kernel) (by decide +kernel) rz_sxb0 rz_sxb1 rz_sxb2 rz_sxb5 (fun x hx => h x (by simp [rz_own, hx]))
  obtain ⟨P2, Ps, hlen, L2, hL, hP2m, hlink2, hlink⟩ := Bundle.chainS (args := args) hpl hnZ [rz_xE] rz_xR (by decide +kernel) (by decide +kernel) (fun x hx => h x (by simp [rz_own, hx]))
  have hlink1 : P1.sup = P2.m := Option.some.inj (hs1.symm.trans hP2m)
  have hfound : s.vm.findClass rz_xN = some P1.m.cls := findClass_of_methodNamed hP1m
  cases Option.some.inj (hfoundX.symm.trans hfound)
  obtain ⟨c1, kX', hc1, hk, hord, -, -, hn6⟩ := Cond.instantiable_spec (a' (.instantiable rz_xN 6) (by simp [rz_own]))
  cases Option.some.inj (hc1.symm.trans hfound)
  cases Option.some.inj (hkX.symm.trans hk)
  have hsel0 : selectMethod e.platform s.vm P1.m.cls T0.fill0 = .method T0.fill0 := by
    obtain ⟨c2, r2, m2, q1, q2, q3, q4, -⟩ := Cond.selects_spec (a' (.selects rz_xN Bundle.tFill0 Bundle.tFill0) (by simp [rz_own]))
    cases Option.some.inj (q1.symm.trans hfound)
    cases Option.some.inj (q2.symm.trans (State.methodFound?_of_named Y.fill0 (by decide)))
    cases Option.some.inj (q3.symm.trans Y.fill0)
    rw [Launch.admits_selectMethod X.admits]; exact q4
  have hselF : selectMethod e.platform s.vm P1.m.cls T0.fill = .method T0.fill := by
    obtain ⟨c2, r2, m2, q1, q2, q3, q4, -⟩ := Cond.selects_spec (a' (.selects rz_xN Bundle.tFill Bundle.tFill) (by simp [rz_own]))
    cases Option.some.inj (q1.symm.trans hfound)
    cases Option.some.inj (q2.symm.trans (State.methodFound?_of_named Y.fill (by decide)))
    cases Option.some.inj (q3.symm.trans Y.fill)
    rw [Launch.admits_selectMethod X.admits]; exact q4
  obtain ⟨cellS0, hcS0, hiss⟩ := Y.statics
  obtain ⟨u0, hu0⟩ := Cond.staticRefV Y.unassigned L.unassignedStatic L.statics hcS0 hiss (a' (.isRef (.static Bundle.tN "UNASSIGNED_STACK" Bundle.steD)) (by simp [rz_own]))
  obtain ⟨sen, hsen⟩ := Cond.staticRefV Y.sentinel L.sentinelStatic L.statics hcS0 hiss (a' (.isRef (.static Bundle.tN "SUPPRESSED_SENTINEL" Bundle.listD)) (by simp [rz_own]))
  obtain ⟨ci198, i198, fB, hk198, hg198, ha198, hsB, -, hnB, htB, hffB⟩ := Cond.ownField (t := .object "java/lang/Object") Y.found L.cls (by decide +kernel) (a' (.fieldLink Bundle.tN 198 Bundle.tN "backtrace" "Ljava/lang/Object;") (by simp [rz_own])) (a' (.lays Bundle.tN Bundle.tN "backtrace" "Ljava/lang/Object;") (by simp [rz_own])) e.platform hpl
  obtain ⟨cellS, hcS', heS, -, hkeep⟩ := X.same.2.2.2.2.2 T0.aS cellS0 hcS0
  have hcellS : T.heap[T0.aS]? = some cellS := hcS'
  have hout' : ∀ i, (⟨T0.aS, i⟩ : Loc) ∉ locs := fun i hmem => by
    have := hlocs _ hmem cellS0 hcS0
    rw [hiss] at this; cases this
  have hknownS : cellS.vm ≠ .unknown := by
    rw [heS]; intro hu
    rw [show cellS0.vm = .unknown from hu] at hiss
    cases hiss
  have hneS : T0.aS ≠ a := Nat.ne_of_lt (Nat.lt_of_lt_of_le (Array.getElem?_eq_some_iff.mp hcS0).1 hnew)
  obtain ⟨iM, hffM⟩ := Y.msg
  obtain ⟨tyC, dC, hdC, hdnC⟩ := Cond.laysAt hfound hk Y.cause (a' (.lays rz_xN Bundle.tN "cause" "Ljava/lang/Throwable;") (by simp [rz_own]))
  obtain ⟨tyS, dS, hdS, hdnS⟩ := Cond.laysAt hfound hk Y.stack (a' (.lays rz_xN Bundle.tN "stackTrace" Bundle.steD) (by simp [rz_own]))
  obtain ⟨tyP, dP, hdP, hdnP⟩ := Cond.laysAt hfound hk Y.supp (a' (.lays rz_xN Bundle.tN "suppressedExceptions" Bundle.listD) (by simp [rz_own]))
  obtain ⟨tyM, dM, hdM, hdnM⟩ := Cond.laysAt hfound hk hffM (a' (.lays rz_xN Bundle.tN "detailMessage" "Ljava/lang/String;") (by simp [rz_own]))
  obtain ⟨tyB, dB, hdB, hdnB⟩ := Cond.laysAt hfound hk hffB (a' (.lays rz_xN Bundle.tN "backtrace" "Ljava/lang/Object;") (by simp [rz_own]))
  have bC := Cond.laysApart hdB hdC hdnB hdnC (by rw [hnB, Y.causeName]; decide)
  have bS := Cond.laysApart hdB hdS hdnB hdnS (by rw [hnB, Y.stackName]; decide)
  have bP := Cond.laysApart hdB hdP hdnB hdnP (by rw [hnB, Y.suppName]; decide)
  have hskip : SkipFacts T0 e.platform s (fun u => u) u0 ((preparedCellV T0.toThrowableT (freshCell P1.m.cls kX) a u0 sen).withEntry T.cur) :=
    ⟨{ ci198 := ci198, i198 := i198, fBack := fB }, ⟨hk198, hg198, ha198, hsB⟩, by
      have := fresh_default (c := P1.m.cls) tyB
      rw [htB] at this
      simpa [preparedCellV, Cell.setSlot, Cell.withEntry, Array.getElem?_setIfInBounds, bC, bS, bP, bC.symm, bS.symm, bP.symm, defaultValue] using this, fun _ _ => rfl⟩
  obtain ⟨tm, methC, cdC, kC, vm₁, hnC, -, -, -, -, -, -, -, hW₁, st1⟩ := Steps.initColdS (tb := p.tables) (e := e) (below := below) (s := s) (U := T) X.here hexec X.warmed hpl hown (t := Bundle.initS rz_xN) rfl rfl (by decide +kernel)
    (a' (.methodLink own ic (Bundle.initS rz_xN)) (by simp [rz_own])) (h (.instanceMethod (Bundle.initS rz_xN)) (by simp [rz_own, Bundle.passSAtoms])) (bytes := rz_sxb) (maxL := 2) (h (.code (Bundle.initS rz_xN) rz_sxb 2 none) (by simp [rz_own, Bundle.passSAtoms]))
    (f := g) hg (a := a) (msg := msg) (rest := .ref a :: rest) hstack hd6
  cases Option.some.inj (hnC.symm.trans hP1m)
  have X₁ := X.noted hW₁
  obtain ⟨vm₂, X₂, st2⟩ := X₁.ctorMessageOffV hexec (g := { g with stack := .ref a :: rest }) hg hsize T0 L Z LZ M LM (P1 :: P2 :: Ps)
    (fun P hP => by
      rcases List.mem_cons.mp hP with rfl | hP
      · exact L1
      · rcases List.mem_cons.mp hP with rfl | hP
        · exact L2
        · exact hL P hP) ⟨hlink1, hlink2, hlink⟩ (u0 := u0) (sen := sen) (self := a) hmsg (cell := freshCell P1.m.cls kX) (cellS := cellS)
    hcell (fun _ => by simp) (by simp) rfl rfl hsel0 hselF hcellS hneS hknownS (by rw [hkeep _ (hout' _)]; exact hu0) (by rw [hkeep _ (hout' _)]; exact hsen)
    (Takes.of_laid hk hord tyC (by rw [Y.causeType]; rfl)) (Takes.of_laid hk hord tyS (by rw [Y.stackType]; exact fits_refV_array _ u0)) (Takes.of_laid hk hord tyP (by rw [Y.suppType]; exact fits_refV_object _ sen))
    (Takes.of_laid hk hord tyM (by rw [Y.msgType]; exact fits_refV_object _ ⟨msg, hmsg⟩)) Y.objLocals hskip htr [] hd6
    (by simp only [List.length_cons, hlen, List.length_nil]; omega) (by simp only [List.length_cons, hlen, List.length_nil]; exact hRlocals)
  obtain ⟨hwalk, hrun, hended, hWU, hsame⟩ := X₂.athrowLeaves hexec (g := { g with stack := .ref a :: rest, pc := g.pc + 3 }) hg hlocked hentered hout (a := a) (rest := rest) rfl hd9
  have hlt : a < ((T.setVm vm₁).setVm vm₂).heap.size := (Array.getElem?_eq_some_iff.mp hcell).1
  have hU := heapAt_setCell_self (s := (T.setVm vm₁).setVm vm₂) (plainBareV T0.toThrowableT (freshCell P1.m.cls kX) a u0 sen msg) hlt
  refine ⟨_, st1 _ (fun acts => ?_), hrun, hended, hWU, hsame.weaken (fun y hy hlt' => ?_) (Nat.le_refl _) (Nat.le_refl _), _, hU, hfound, rfl⟩
  · rw [doInvoke_state]
    exact st2 _ hwalk
  · rcases List.mem_append.mp hy with h1 | h1
    · exact h1
    · exfalso
      have hb : y.base = a := by
        simp only [List.mem_cons, List.not_mem_nil, or_false] at h1
        rcases h1 with rfl | rfl | rfl | rfl | rfl <;> rfl
      rw [hb] at hlt'
      exact Nat.not_lt.mpr hnew hlt'
set_option maxHeartbeats 4000000 in
/-- 'throw new NoSuchElementException("text")' -/
theorem rz_throwN {cc : ByteArray} {pc : Nat} (hexec : p.tables.exec = Jvm.exec) (hb : c.code = cc) (hl : l.stackTraces = false) {own text : String} {ik is ic mc ms sa : Nat} {A : Nat → Prop}
    (hown : s.vm.findClass own = some m.cls)
    (hk : (Cond.classLink own ik rz_xN).before args s = true) (hini : (Cond.initialized rz_xN).before args s = true) (hstr : vk_R own is text sa s) (hat : ∀ w ∈ rz_atN own ic, w.before args s = true)
    (hgood : ∀ w ∈ Cond.classLink own ik rz_xN :: Cond.initialized rz_xN :: rz_atN own ic, vx_ot w = true)
    (hU : vx_Zq Bundle.tN "UNASSIGNED_STACK" Bundle.steD A s s.heap) (hN : vx_Zq Bundle.tN "SUPPRESSED_SENTINEL" Bundle.listD A s s.heap) (hS : va_S A s.heap H locs) (hsize : ls.size = c.maxLocals)
    (d0 : decode cc pc = .ok (.new ik, 3)) (d3 : decode cc (pc + 3) = .ok (.dup, 1)) (d4 : decode cc (pc + 4) = .ok (.ldc is, 2)) (d6 : decode cc (pc + 6) = .ok (.invokespecial ic, 3)) (d9 : decode cc (pc + 9) = .ok (.athrow, 1))
    (hout : ∀ x ∈ c.exceptionTable.toList, covers x (pc + 9) = false)
    (hRframes : 5 < R.frames) (hRlocals : (rest.map fun v => v.category).sum + 82 ≤ R.locals) (hRcells : cells + 1 ≤ R.cells) (hRslots : slots + 6 ≤ R.slots) (hlocks : meth.locks = false)
    (hx : ∀ t : State, s.vm.Alike t.vm → H.size ≤ t.heap.size → (∀ q : Nat, q < H.size → t.heap[q]? = H[q]?) → XC rz_xN s t)
    (hf : ∀ z ∈ locs, free z.base) (hc : cells + 1 ≤ mc) (hs : slots + 6 ≤ ms) :
    W p l e R s m args below meth c H locs cells slots (vx_MQ below Qc XC args s mc ms free) (F0 m pc ls rest) := by
  intro T hT X
  have htr : e.platform.stackTraces = false := (show e.platform.stackTraces = l.stackTraces by rw [X.admits.platform]).trans hl
  have Y := vx_rebase X (R' := { frames := R.frames, locals := R.locals, cells := 1, slots := 6 }) (Nat.le_refl _) (Nat.le_refl _) hRcells hRslots
  obtain ⟨s', hA⟩ : ∃ z, z = (T.setVm s.vm).setFrames (.invoking m args :: below) := ⟨_, rfl⟩
  rw [← hA] at Y
  have hvm : s'.vm = s.vm := by rw [hA]; rfl
  have hhp : s'.heap = H := by rw [hA]; exact hT
  have hW0 : s.WarmedH s'.vm := by rw [hvm]; exact State.WarmedH.refl s
  have hat' : ∀ w ∈ rz_atN own ic, w.before args s' = true := fun w hw => vx_ot_at hW0 hvm.symm (hgood w (List.mem_cons_of_mem _ (List.mem_cons_of_mem _ hw))) (hat w hw)
  have hk' : (Cond.classLink own ik rz_xN).before args s' = true := vx_ot_at hW0 hvm.symm (hgood _ List.mem_cons_self) hk
  have hini' : (Cond.initialized rz_xN).before args s' = true := vx_ot_at hW0 hvm.symm (hgood _ (List.mem_cons_of_mem _ List.mem_cons_self)) hini
  have hU' : vx_Zq Bundle.tN "UNASSIGNED_STACK" Bundle.steD A s' s'.heap := by rw [hhp]; exact vx_Zq.moved hW0.alike (hU.kept hS.2.1)
  have hN' : vx_Zq Bundle.tN "SUPPRESSED_SENTINEL" Bundle.listD A s' s'.heap := by rw [hhp]; exact vx_Zq.moved hW0.alike (hN.kept hS.2.1)
  have h : ∀ w ∈ rz_own own ic, w.before args s' = true := vx_own hat' (vx_isRefq hU'.1) (vx_isRefq hN'.1) hU'.2.word hN'.2.word
  have hown' : s'.vm.findClass own = some m.cls := by rw [hvm]; exact hown
  have hins : (Cond.instantiable rz_xN 6).before args s' = true := h _ (by simp [rz_own])
  obtain ⟨vm₁, cX, kX, hfX, hkX, -, -, X₁, st1⟩ := Y.newCold hexec (own := own) (C := rz_xN) (index := ik) (n := 6) hown' hk' hins hini'
    (g := F0 m pc ls rest) rfl (by rw [hb]; exact d0) (Nat.le_refl _) (Nat.le_refl _)
  generalize hT1 : (T.setVm vm₁).pushCell { cls := cX, slots := kX.instanceTypes.map defaultValue, vm := .none } = T1 at X₁ st1
  have hcat : (Value.ref T.heap.size).category = 1 := rfl
  have hcellA : T1.heap[T.heap.size]? = some (freshCell cX kX) := by rw [← hT1]; exact State.heap_pushCell_size _ _
  have d3' : decode c.code (pc + 3) = .ok (.dup, 1) := by rw [hb]; exact d3
  have d4' : decode c.code (pc + 4) = .ok (.ldc is, 2) := by rw [hb]; exact d4
  have hstr' : vk_R own is text sa s' := vk_R.warm hW0 hstr
  obtain ⟨U, hsteps, hrun, hend, hW, hsame, ce, hce, hcls, hcv⟩ := rz_ctorN X₁ hexec htr (own := own) (ic := ic) hown' h (fun x hx => nomatch hx) hfX hkX hcellA (by rw [hhp, hT]; exact Nat.le_refl _) (msg := .ref sa) rfl
    (g := { method := m, pc := pc + 6, locals := ls, stack := .ref sa :: .ref T.heap.size :: .ref T.heap.size :: rest, locked := none }) rfl hsize rfl rfl (rest := rest) rfl
    (by rw [hb]; exact d6) (by rw [hb]; exact d9) hout hRframes (by simp only [List.map_cons, List.sum_cons, hcat]; omega) hlocks
  obtain ⟨f1, f2⟩ := vx_frame hsame
  rw [hhp] at f1 f2
  have hWs : s.WarmedH U.vm := State.WarmedH.trans hW0 hW
  have hcl : s.vm.findClass rz_xN = some ce.cls := by
    rw [hvm] at hcls
    exact hcls
  have hall : s.sameButNew ({ U with vm := s.vm } : State) locs mc ms := by
    subst hA
    obtain ⟨e1, e2⟩ := hsame
    rw [State.setFrames_setFrames] at e1
    have h2 : (T.setVm s.vm).sameButNew ({ U with vm := s.vm } : State) [] (0 + 1) (0 + 6) := ⟨e1, e2⟩
    have h3 := X.same.trans h2
    rw [List.append_nil] at h3
    exact h3.mono hc hs
  refine ⟨U, ?_, .threw T.heap.size, hrun, hend, Or.inr ⟨T.heap.size, rfl, rz_xN, ce, locs, hx U hWs.alike f1 (fun q hq => f2 q hq (fun z hz => nomatch hz)), hce, hcv, hcl, hWs, hall, hf⟩⟩
  refine st1 _ ?_
  show Steps p.tables e below (T1.setTop { method := m, pc := pc + 3, locals := ls, stack := .ref T.heap.size :: rest, locked := none }) _
  jvm_step X₁.here [X₁.here.top, hexec, d3', Value.category]
  exact X₁.ldcString hexec (own := own) (text := text) (index := is) (a := sa) hown' hstr'.1 hstr'.2
    (g := { method := m, pc := pc + 4, locals := ls, stack := .ref T.heap.size :: .ref T.heap.size :: rest, locked := none }) rfl d4' _ hsteps
end RZTN
/-- the world of a call that may throw -/
def rz_BX (D : va_G) (ad : Nat → Nat) (cA : Nat → ClassId) (σ : ra_S) (sa1 sa2 : Nat) (U : State) : Prop := ra_B ra_lay D ad cA σ U ∧ rz_Xs sa1 sa2 (ra_A ad) U U.heap
theorem rz_BX_blind {D : va_G} {ad : Nat → Nat} {cA : Nat → ClassId} {σ : ra_S} {sa1 sa2 : Nat} {av : List Value} : FrameBlind (va_Pc av (rz_BX D ad cA σ sa1 sa2)) := by
  intro a U g mk q
  obtain ⟨q0, qB, qX⟩ := q
  have h1 := ra_blind (lay := ra_lay) (D := D) (ad := ad) (cA := cA) (σ := σ) (av := av) a U g mk ⟨q0, qB⟩
  exact ⟨q0, h1.2, rz_Xs.same (u := U) (U := U.calling g mk a) rfl qX⟩
def rz_rmL : Room := { frames := 6, cells := 1, slots := 6, locals := 100 }
def rz_rmK : Room := { frames := 7, cells := 1, slots := 6, locals := 130 }
/-- where the class's look has thrown -/
def rz_XLk (D : va_G) (ad : Nat → Nat) (cA : Nat → ClassId) (σ : ra_S) (k : Int32) : String → Unit → State → Prop := fun E _ t => ((k = 1 ∧ E = rz_xI) ∨ (k = 2 ∧ E = rz_xN)) ∧ va_P D vwCl (ra_w ra_lay ad cA σ) t.heap
set_option maxHeartbeats 4000000 in
theorem rz_lookM {l : Launch} (hl : l.stackTraces = false) {D : va_G} {ad : Nat → Nat} {cA : Nat → ClassId} (hinj : ∀ i j, i < ra_nc → j < ra_nc → ad i = ad j → i = j) {a b k v : Int32} {σ : ra_S} {sa1 sa2 : Nat} (hq : rz_Lq a b σ k v) :
    vx_Met l (ra_mt 81).2.1 (ra_ws (ra_mt 81)) rz_rmL (va_Pc (([.ref 0, .int a, .int b] : List Value).map (ra_cv ad)) (rz_BX D ad cA σ sa1 sa2)) (va_Qi (S := Unit) (fun r _ => k = 0 ∧ r = v) (fun _ t => va_P D vwCl (ra_w ra_lay ad cA σ) t.heap) (ra_A ad)) (vx_X (S := Unit) (fun _ => True) (rz_XLk D ad cA σ k) (ra_A ad)) 1 6 (ra_A ad) := by
  have hco := ra_call_ok 81
  refine vx_ofW (cc := (ra_mt 81).2.2.1) (maxL := (ra_mt 81).2.2.2.1.1) (ret := (ra_mt 81).2.2.2.1.2) (by decide +kernel) rfl ?_
  intro p e s m args below meth c s₁ B hml hex hv
  obtain ⟨rfl, ⟨hP, hK, hN⟩, hX⟩ := hv
  have hx := B.exec
  have hb := B.bytes
  have hr := B.returns
  have hts0 := atoms_spec (ws := ra_ws (ra_mt 81)) B.pre
  have hts : ∀ w ∈ ra_tb, w.before (([.ref 0, .int a, .int b] : List Value).map (ra_cv ad)).toArray s = true := fun w hw => hts0 w (List.mem_cons_of_mem _ hw)
  have hown : s.vm.findClass (ra_mt 81).2.1.cls = some m.cls := findClass_of_methodNamed B.named
  have hlocks := B.notSynchronized
  have hcat' : (lg_sl (([.ref 0, .int a, .int b] : List Value).map (ra_cv ad))).length ≤ (ra_mt 81).2.2.2.1.1 := by rw [ra_sl_len, ra_cv_cats]; exact (by decide : (3 : Nat) ≤ 4)
  have hle := lv_entry (([.ref 0, .int a, .int b] : List Value).map (ra_cv ad)) hcat'
  rw [lg_entry_eq]
  generalize (lg_sl (([.ref 0, .int a, .int b] : List Value).map (ra_cv ad)) ++ List.replicate ((ra_mt 81).2.2.2.1.1 - (lg_sl (([.ref 0, .int a, .int b] : List Value).map (ra_cv ad))).length) Slot.unset).toArray = ls at hle ⊢
  have hok : ra_ok ad 4 [some (.ref 0), some (.int a), some (.int b), none] ls := ⟨hle.1, hle.2.1, fun i w hw _ => by
    have := hle.2.2 _ (ra_lo0_mem (ad := ad) [.ref 0, .int a, .int b] 4 0 i w hw)
    rw [Nat.zero_add] at this
    exact this⟩
  have hF : ra_Fx p s m (([.ref 0, .int a, .int b] : List Value).map (ra_cv ad)).toArray c (ra_mt 81) := ⟨hx, hb, hml, hown, hts, hco.1⟩
  have hRm : (ra_mt 81).2.2.2.2.2.1.1 ≤ (headSpec (ra_ws (ra_mt 81)) rz_rmL).room.frames ∧ (ra_mt 81).2.2.2.2.2.1.2 ≤ (headSpec (ra_ws (ra_mt 81)) rz_rmL).room.locals := ⟨Nat.le_of_ble_eq_true rfl, Nat.le_of_ble_eq_true rfl⟩
  have hgone : ∀ (E : String) (H1 : Heap) (locs1 : List Loc), ((k = 1 ∧ E = rz_xI) ∨ (k = 2 ∧ E = rz_xN)) → va_P D vwCl (ra_w ra_lay ad cA σ) H1 → va_S (ra_A ad) s.heap H1 locs1 → ∀ t : State, s.vm.Alike t.vm → H1.size ≤ t.heap.size → (∀ q : Nat, q < H1.size → t.heap[q]? = H1[q]?) → vx_X (S := Unit) (fun _ => True) (rz_XLk D ad cA σ k) (ra_A ad) E s t := by
    intro E H1 locs1 hE hP1 hS1 t hal hsz hsame
    exact ⟨(), trivial, ⟨hE, hP1.kept (fun k q hk => hsame q.1 (vx_lt hP1 hk))⟩, ⟨Nat.le_trans hS1.1 hsz, fun q h1 h2 => by rw [hsame q (Nat.lt_of_lt_of_le h1 hS1.1)]; exact hS1.2.1 q h1 h2⟩⟩
  rcases hq with ⟨rfl, hC⟩ | ⟨rfl, hD⟩ | ⟨rfl, hD⟩
  · obtain ⟨n, hn⟩ := ra_D_some.mp (show ra_D (ra_lay, none, 99999, ra_mt 81) 0 [some (.ref 0), some (.int a), some (.int b), none] [] σ = some (.inl (some (.int v)), σ) from hC)
    refine ra_walk (lay := ra_lay) (κ := (ra_lay, none, 99999, ra_mt 81)) (A0 := ra_A ad) (H0 := s.heap) (cells := 0) (slots := 0) hinj (fun q h => h) rfl (fun _ _ h => h) hF hK hN hRm ⟨Nat.zero_le _, Nat.zero_le _⟩ (fun xs h => by cases h) (.inl (some (.int v))) σ ?_ ?_ n (fun k _ => ra_met (fun _ _ h => h) hinj k) 0 _ [] σ s.heap [] ls hn hP va_S.rf hok
    · intro v' hv' i H' locs' pc' ls' hP' hS' hd' hri
      cases hv'
      obtain ⟨rfl, hrt | ⟨hrt, hz⟩⟩ := hri
      · refine vx_ret ?_
        refine W.widen (k := 1) (n := 6) (by omega) (by omega) ?_
        exact W.iret hx hb (hr.trans hrt) (fun t ht hW => ⟨⟨v, (), rfl, ⟨rfl, rfl⟩, by show va_P D vwCl (ra_w ra_lay ad cA σ) t.heap; rw [ht]; exact hP'⟩, hS'.F ht⟩) hS'.2.2 hd'
      · cases hrt
    · intro lo' st' h
      cases h
  · obtain ⟨n, hn⟩ := ra_D_some.mp hD
    refine ra_walk (lay := ra_lay) (κ := (ra_lay, none, 8, ra_mt 81)) (A0 := ra_A ad) (H0 := s.heap) (cells := 0) (slots := 0) hinj (fun q h => h) rfl (fun _ _ h => h) hF hK hN hRm ⟨Nat.zero_le _, Nat.zero_le _⟩ (fun xs h => by cases h) _ σ (fun v' hv' => by cases hv') ?_ n (fun k _ => ra_met (fun _ _ h => h) hinj k) 0 _ [] σ s.heap [] ls hn hP va_S.rf hok
    intro lo' st' hst H1 locs1 ls1 hP1 hS1 hok1
    cases hst
    exact vx_throwS (own := RX11) (cls := rz_xI) (text := "no such player") (names := rz_xs) (ik := 133) (is := 135) (ic := 137) (sa := sa1) (A := ra_A ad) (mc := 1) (ms := 6) (rest := []) hx hb hl hown (by decide +kernel) (by decide +kernel) (hts _ rz_xk0) (hts _ rz_xi0) hX.2.2.2.1
      (vx_hat (fun w hw => hts w (List.mem_filter.mpr ⟨rz_xw0 w hw, (List.mem_filter.mp hw).2⟩)) rz_xb0 (vx_c (va_Nw.use rfl hX.1) hX.dec)) rz_xg0 hX.2.2.2.2.2.1 hX.2.2.2.2.2.2.1 hS1 (hok1.1.trans hml.symm) rz_d8 rz_d11 rz_d12 rz_d14 rz_d17 (fun x hx => (hex x hx).elim)
      (Nat.le_of_ble_eq_true rfl) (Nat.le_of_ble_eq_true rfl) (Nat.le_of_ble_eq_true rfl) (Nat.le_of_ble_eq_true rfl) hlocks (hgone rz_xI H1 locs1 (Or.inl ⟨rfl, rfl⟩) hP1 hS1) hS1.2.2 (Nat.le_refl _) (Nat.le_refl _)
  · obtain ⟨n, hn⟩ := ra_D_some.mp hD
    refine ra_walk (lay := ra_lay) (κ := (ra_lay, none, 137, ra_mt 81)) (A0 := ra_A ad) (H0 := s.heap) (cells := 0) (slots := 0) hinj (fun q h => h) rfl (fun _ _ h => h) hF hK hN hRm ⟨Nat.zero_le _, Nat.zero_le _⟩ (fun xs h => by cases h) _ σ (fun v' hv' => by cases hv') ?_ n (fun k _ => ra_met (fun _ _ h => h) hinj k) 0 _ [] σ s.heap [] ls hn hP va_S.rf hok
    intro lo' st' hst H1 locs1 ls1 hP1 hS1 hok1
    cases hst
    exact rz_throwN (own := RX11) (text := "no such what") (ik := 164) (is := 166) (ic := 168) (sa := sa2) (A := ra_A ad) (mc := 1) (ms := 6) (rest := []) hx hb hl hown (hts _ rz_xk1) (hts _ rz_xi1) hX.2.2.2.2.1
      (vx_hat (fun w hw => hts w (List.mem_filter.mpr ⟨rz_xw1 w hw, (List.mem_filter.mp hw).2⟩)) rz_xb1 (vx_c (va_Nw.use rfl hX.2.1) hX.dec)) rz_xg1 hX.2.2.2.2.2.1 hX.2.2.2.2.2.2.1 hS1 (hok1.1.trans hml.symm) rz_d137 rz_d140 rz_d141 rz_d143 rz_d146 (fun x hx => (hex x hx).elim)
      (Nat.le_of_ble_eq_true rfl) (Nat.le_of_ble_eq_true rfl) (Nat.le_of_ble_eq_true rfl) (Nat.le_of_ble_eq_true rfl) hlocks (hgone rz_xN H1 locs1 (Or.inr ⟨rfl, rfl⟩) hP1 hS1) hS1.2.2 (Nat.le_refl _) (Nat.le_refl _)
-- the law's own look
def ra_fl (pc : Nat) : Option ra_E := match pc with
  | 0 => some (.aload_n 3, 1, 0, 0, 0, 0)
  | 1 => some (.iconst 0, 1, 0, 0, 0, 0)
  | 2 => some (.aload_n 0, 1, 0, 0, 0, 0)
  | 3 => some (.iload_n 1, 1, 0, 0, 0, 0)
  | 4 => some (.iload_n 2, 1, 0, 0, 0, 0)
  | 8 => some (.i2l, 1, 0, 0, 0, 0)
  | 9 => some (.lastore, 1, 0, 0, 0, 0)
  | 10 => some (.goto 11, 3, 21, 0, 0, 0)
  | 13 => some (.astore 4, 2, 0, 0, 0, 0)
  | 15 => some (.iconst 1, 1, 0, 0, 1, 0)
  | 16 => some (.ireturn, 1, 0, 0, 0, 0)
  | 17 => some (.astore 4, 2, 0, 0, 0, 0)
  | 19 => some (.iconst 2, 1, 0, 0, 2, 0)
  | 20 => some (.ireturn, 1, 0, 0, 0, 0)
  | 21 => some (.iconst 0, 1, 0, 0, 0, 0)
  | 22 => some (.ireturn, 1, 0, 0, 0, 0)
  | _ => none
def ra_ml : ra_M := (13, yL_look, cL_look, (5, (some .int)), (true, 4), (0, 0), ra_fl)
theorem ra_ml_ok : ra_mok ra_ml := ra_mok_of (n := 23) (by decide +kernel) (by decide +kernel) (fun pc h => by
  show ra_fl pc = none
  unfold ra_fl
  split <;> first | rfl | omega)
abbrev rz_hh : List (Nat × Nat × Nat × Nat) := [(0, 10, 13, 13), (0, 10, 17, 15)]
abbrev rz_wsK : List Cond := Cond.codeWith yL_look cL_look 5 (some .int) rz_hh :: ra_tb
theorem rz_lk0 : Cond.codeWith yL_look cL_look 5 (some .int) rz_hh ∈ ra_tb := ra_tb_of (List.mem_of_getElem? (i := 1160) (by decide +kernel)) rfl
theorem rz_lk1 : Cond.classLink RL 13 rz_xI ∈ ra_tb := ra_tb_of (List.mem_of_getElem? (i := 1161) (by decide +kernel)) rfl
theorem rz_lk2 : Cond.classLink RL 15 rz_xN ∈ ra_tb := ra_tb_of (List.mem_of_getElem? (i := 1162) (by decide +kernel)) rfl
theorem rz_lk3 : Cond.methodLink RL 7 (ra_mt 81).2.1 ∈ ra_tb := ra_tb_of (List.mem_of_getElem? (i := 1163) (by decide +kernel)) rfl
theorem rz_lk4 : Cond.methodLink RL 39 yL_look ∈ ra_tb := ra_tb_of (List.mem_of_getElem? (i := 1158) (by decide +kernel)) rfl
theorem rz_lk5 : Cond.static yL_look ∈ ra_tb := ra_tb_of (List.mem_of_getElem? (i := 1159) (by decide +kernel)) rfl
theorem rz_lk6 : Cond.initialized yL_look.cls ∈ ra_tb := ra_tb_of (List.mem_of_getElem? (i := 0) (by decide +kernel)) rfl
theorem rz_dl5 : decode cL_look 5 = .ok (.invokevirtual 7, 3) := by decide +kernel
theorem rz_dl16 : decode cL_look 16 = .ok (.ireturn, 1) := by decide +kernel
theorem rz_dl20 : decode cL_look 20 = .ok (.ireturn, 1) := by decide +kernel
theorem rz_eK0 (a b : Int32) (σ : ra_S) : ra_D (ra_lay, none, 5, ra_ml) 0 [some (.ref 0), some (.int a), some (.int b), some (.ref 115), none] [] σ = some (.inr ([some (.ref 0), some (.int a), some (.int b), some (.ref 115), none], [.int b, .int a, .ref 0, .int 0, .ref 115]), σ) :=
  ra_mic 6 (fun _ => some (.inr ([some (.ref 0), some (.int a), some (.int b), some (.ref 115), none], [.int b, .int a, .ref 0, .int 0, .ref 115]), σ)) (fun _ => rfl) (ra_Lm.const _)
theorem rz_eK8 (v : Int32) (lo : ra_L) (σ : ra_S) : ra_D (ra_lay, none, 99999, ra_ml) 8 lo [.int v, .int 0, .ref 115] σ = some (.inl (some (.int 0)), ra_ul σ 115 0 v.toInt64) :=
  ra_mic 5 (fun _ => some (.inl (some (.int 0)), ra_ul σ 115 0 v.toInt64)) (fun _ => rfl) (ra_Lm.const _)
theorem rz_ok_no (ad : Nat → Nat) {ls : Array Slot} (h1 : ls.size = 5) (h2 : lv_wf ls) : ra_ok ad 5 [none, none, none, none, none] ls := ⟨h1, h2, fun i w hw _ => by
  match i, hw with
  | 0, hw => cases hw
  | 1, hw => cases hw
  | 2, hw => cases hw
  | 3, hw => cases hw
  | 4, hw => cases hw
  | i + 5, hw => cases hw⟩
set_option maxHeartbeats 4000000 in
theorem rz_llM {l : Launch} (hl : l.stackTraces = false) {D : va_G} {ad : Nat → Nat} {cA : Nat → ClassId} (hinj : ∀ i j, i < ra_nc → j < ra_nc → ad i = ad j → i = j) {a b k v : Int32} {σ : ra_S} {sa1 sa2 : Nat} (hq : rz_Lq a b σ k v) :
    Met l yL_look rz_wsK rz_rmK (va_Pc (([.ref 0, .int a, .int b, .ref 115] : List Value).map (ra_cv ad)) (rz_BX D ad cA σ sa1 sa2)) (va_Qi (S := Unit) (fun r _ => r = k) (fun _ t => va_P D vwCl (ra_w ra_lay ad cA (if k = 0 then ra_ul σ 115 0 v.toInt64 else σ)) t.heap) (ra_A ad)) 1 6 (ra_A ad) := by
  have hco := ra_call_ok 81
  refine va_MetW (cc := cL_look) (maxL := 5) (ret := some .int) (hh := rz_hh) (by decide +kernel) rfl ?_
  intro p e s m args below meth c s₁ B hml hv
  obtain ⟨rfl, hBX⟩ := hv
  obtain ⟨⟨hP, hK, hN⟩, hX⟩ := id hBX
  have hx := B.exec
  have hb := B.bytes
  have hr := B.returns
  have hts0 := atoms_spec (ws := rz_wsK) B.pre
  have hts : ∀ w ∈ ra_tb, w.before (([.ref 0, .int a, .int b, .ref 115] : List Value).map (ra_cv ad)).toArray s = true := fun w hw => hts0 w (List.mem_cons_of_mem _ hw)
  have hown : s.vm.findClass ra_ml.2.1.cls = some m.cls := findClass_of_methodNamed B.named
  have hlocks := B.notSynchronized
  have htab : c.exceptionTable.toList = tableOf rz_hh := vx_table (x := yL_look) B (hts0 _ List.mem_cons_self)
  have hcat' : (lg_sl (([.ref 0, .int a, .int b, .ref 115] : List Value).map (ra_cv ad))).length ≤ 5 := by rw [ra_sl_len, ra_cv_cats]; exact (by decide : (4 : Nat) ≤ 5)
  have hle := lv_entry (([.ref 0, .int a, .int b, .ref 115] : List Value).map (ra_cv ad)) hcat'
  rw [lg_entry_eq]
  generalize (lg_sl (([.ref 0, .int a, .int b, .ref 115] : List Value).map (ra_cv ad)) ++ List.replicate (5 - (lg_sl (([.ref 0, .int a, .int b, .ref 115] : List Value).map (ra_cv ad))).length) Slot.unset).toArray = ls at hle ⊢
  have hok : ra_ok ad 5 [some (.ref 0), some (.int a), some (.int b), some (.ref 115), none] ls := ⟨hle.1, hle.2.1, fun i w hw _ => by
    have := hle.2.2 _ (ra_lo0_mem (ad := ad) [.ref 0, .int a, .int b, .ref 115] 5 0 i w hw)
    rw [Nat.zero_add] at this
    exact this⟩
  have hF : ra_Fx p s m (([.ref 0, .int a, .int b, .ref 115] : List Value).map (ra_cv ad)).toArray c ra_ml := ⟨hx, hb, hml, hown, hts, ra_ml_ok⟩
  have hRm : ra_ml.2.2.2.2.2.1.1 ≤ (headSpec rz_wsK rz_rmK).room.frames ∧ ra_ml.2.2.2.2.2.1.2 ≤ (headSpec rz_wsK rz_rmK).room.locals := ⟨Nat.zero_le _, Nat.zero_le _⟩
  obtain ⟨n0, hn0⟩ := ra_D_some.mp (rz_eK0 a b σ)
  refine ra_walk (lay := ra_lay) (κ := (ra_lay, none, 5, ra_ml)) (A0 := ra_A ad) (H0 := s.heap) (cells := 0) (slots := 0) hinj (fun q h => h) rfl (fun _ _ h => h) hF hK hN hRm ⟨Nat.zero_le _, Nat.zero_le _⟩ (fun xs h => by cases h) _ σ (fun v' hv' => by cases hv') ?_ n0 (fun k _ => ra_met (fun _ _ h => h) hinj k) 0 _ [] σ s.heap [] ls hn0 hP va_S.rf hok
  intro lo' st' hst H1 locs1 ls1 hP1 hS1 hok1
  cases hst
  have hX1 : rz_Xs sa1 sa2 (ra_A ad) s H1 := hX.kept hS1.2.1
  obtain ⟨hi1, hi2, q, hq1, hq2⟩ := hco.2.2.2.2 rfl
  obtain ⟨q0, w1, -⟩ := ra_w_cell (lay := ra_lay) (ad := ad) (cA := cA) (i := 0) (sh := ra_c0) (by decide) rfl σ
  have hrv : ∃ cell : Cell, H1[ad 0]? = some cell ∧ cell.vm.isStatics = false ∧ s.vm.findClass (ra_mt 81).2.1.cls = some cell.cls := by
    rw [← hq2]
    exact va_recv hK hP1 (ci := 11) hq1 w1
  have hMet := rz_lookM (l := l) hl (D := D) (cA := cA) (sa1 := sa1) (sa2 := sa2) hinj hq
  have hrun := vx_runV (p := p) (l := l) (e := e) (R := (headSpec rz_wsK rz_rmK).room) (below := below) (meth := meth) (H := H1) (locs := locs1) (cells := 0) (slots := 0) (As := ([.int a, .int b] : List Value)) (rest := [.int 0, .ref (ad 115)]) (b := ad 0) (g := F0 m 5 ls1 [.int b, .int a, .ref (ad 0), .int 0, .ref (ad 115)]) (own := RL) (C := (ra_mt 81).2.1.cls) (cc := cL_look) (nL := 5) ⟨hx, hb, hml, hown, hts⟩ hMet
    ⟨callB_of _ hts (ra_good hco) rfl rfl rfl (hts _ hco.2.2.1) (hts _ rz_lk3) ⟨hco.1.2.2.1.1, hco.1.2.2.1.2, hco.1.2.2.2.1⟩ ⟨Nat.le_of_ble_eq_true rfl, Nat.le_of_ble_eq_true rfl⟩, hts _ hi1, hts _ hi2⟩
    ⟨rz_BX_blind, hrv, fun U hU hW => ⟨rfl, ⟨by rw [hU]; exact hP1, va_K.moved hW.alike hK, ra_nest_warm hW hN⟩, by rw [hU]; exact hX1.warm hW⟩⟩ rfl rfl hok1.1 rfl (lv_room (Nat.le_of_ble_eq_true rfl)) rz_dl5 ⟨Nat.le_refl _, Nat.le_refl _⟩
  refine vx_calli (A0 := ra_A ad) (H0 := s.heap) hrun hS1 (fun q _ h => h) (fun q h => h) (fun q _ h => h) (fun E ce q9 u t H2 locs2 ht hal _ hBXt _ _ hS2 hcell hcv hcl => ?_) (fun r u t H2 locs2 ht hal hpost hBt _ _ hS2 => ?_)
  · obtain ⟨hE, hP2⟩ := hBXt
    rw [ht] at hP2
    rcases hE with ⟨rfl, rfl⟩ | ⟨rfl, rfl⟩
    · refine vx_catch (own := RL) (name := rz_xI) hown [] ⟨0, 10, 13, 13⟩ [⟨0, 10, 17, 15⟩] (by rw [htab]; rfl) (fun z hz => by cases hz) (by decide) (by decide) (hts _ rz_lk1) (va_Nw.use rfl hX.1) hcell hcv hcl ?_
      refine ra_sx_W (ad := fun _ => q9) hF (pc := 13) (x := (.astore 4, 2, 0, 0, 0, 0)) (ra_ml_ok.2.2.2.2 13 _ rfl) (lo := [none, none, none, none, none]) (lo' := [none, none, none, none, some (.ref 500)]) (st := [.ref 500]) (st' := []) rfl (rz_ok_no _ hok1.1 hok1.2.1) (fun ls2 hok2 => ?_)
      refine ra_sx_W (ad := fun _ => q9) hF (pc := 15) (x := (.iconst 1, 1, 0, 0, 1, 0)) (ra_ml_ok.2.2.2.2 15 _ rfl) (lo := [none, none, none, none, some (.ref 500)]) (lo' := [none, none, none, none, some (.ref 500)]) (st := []) (st' := [.int 1]) rfl hok2 (fun ls3 hok3 => ?_)
      exact W.iret hx hb hr (fun t ht hW => ⟨⟨1, (), rfl, rfl, by show va_P D vwCl (ra_w ra_lay ad cA (if (1 : Int32) = 0 then ra_ul σ 115 0 v.toInt64 else σ)) t.heap; rw [if_neg (by decide), ht]; exact hP2⟩, hS2.F ht⟩) hS2.2.2 rz_dl16
    · refine vx_catch (own := RL) (name := rz_xN) hown [⟨0, 10, 13, 13⟩] ⟨0, 10, 17, 15⟩ [] (by rw [htab]; rfl) (fun z hz => by rw [List.mem_singleton.mp hz]; exact Or.inr ⟨by decide, rz_xI, hts _ rz_lk1, hX.2.2.1⟩) (by decide) (by decide) (hts _ rz_lk2) (va_Nw.use rfl hX.2.1) hcell hcv hcl ?_
      refine ra_sx_W (ad := fun _ => q9) hF (pc := 17) (x := (.astore 4, 2, 0, 0, 0, 0)) (ra_ml_ok.2.2.2.2 17 _ rfl) (lo := [none, none, none, none, none]) (lo' := [none, none, none, none, some (.ref 500)]) (st := [.ref 500]) (st' := []) rfl (rz_ok_no _ hok1.1 hok1.2.1) (fun ls2 hok2 => ?_)
      refine ra_sx_W (ad := fun _ => q9) hF (pc := 19) (x := (.iconst 2, 1, 0, 0, 2, 0)) (ra_ml_ok.2.2.2.2 19 _ rfl) (lo := [none, none, none, none, some (.ref 500)]) (lo' := [none, none, none, none, some (.ref 500)]) (st := []) (st' := [.int 2]) rfl hok2 (fun ls3 hok3 => ?_)
      exact W.iret hx hb hr (fun t ht hW => ⟨⟨2, (), rfl, rfl, by show va_P D vwCl (ra_w ra_lay ad cA (if (2 : Int32) = 0 then ra_ul σ 115 0 v.toInt64 else σ)) t.heap; rw [if_neg (by decide), ht]; exact hP2⟩, hS2.F ht⟩) hS2.2.2 rz_dl20
  · obtain ⟨rfl, rfl⟩ := hpost
    rw [ht] at hBt
    obtain ⟨n1, hn1⟩ := ra_D_some.mp (rz_eK8 r [some (.ref 0), some (.int a), some (.int b), some (.ref 115), none] σ)
    refine ra_walk (lay := ra_lay) (κ := (ra_lay, none, 99999, ra_ml)) (A0 := ra_A ad) (H0 := s.heap) hinj (fun q h => h) rfl (fun _ _ h => h) hF hK hN hRm ⟨Nat.le_refl _, Nat.le_refl _⟩ (fun xs h => by cases h) (.inl (some (.int 0))) (ra_ul σ 115 0 r.toInt64) ?_ ?_ n1 (fun k _ => ra_met (fun _ _ h => h) hinj k) 8 _ [.int r, .int 0, .ref 115] σ H2 locs2 ls1 hn1 hBt hS2 hok1
    · intro v' hv' i H' locs' pc' ls' hP' hS' hd' hri
      cases hv'
      obtain ⟨rfl, hrt | ⟨hrt, hz⟩⟩ := hri
      · exact W.iret hx hb (hr.trans hrt) (fun t ht hW => ⟨⟨0, (), rfl, rfl, by show va_P D vwCl (ra_w ra_lay ad cA (if (0 : Int32) = 0 then ra_ul σ 115 0 r.toInt64 else σ)) t.heap; rw [if_pos rfl, ht]; exact hP'⟩, hS'.F ht⟩) hS'.2.2 hd'
      · cases hrt
    · intro lo' st' h
      cases h
