-- ===== constructors: rows that keep the new cells in the order in which they are made =====
def rp_P (D : va_G) (N0 r : Nat) (L : List va_E) (H : Heap) : Prop := ∀ (k : Nat) (x : va_E), L[k]? = some x → va_at D vwCl (N0 + r + k, x) H
theorem rp_P.snoc {D : va_G} {N0 r : Nat} {L : List va_E} {H H1 : Heap} {x : va_E} (h : rp_P D N0 r L H) (hl : ∀ q : Nat, q < N0 + r + L.length → H1[q]? = H[q]?) (hx : va_at D vwCl (N0 + r + L.length, x) H1) : rp_P D N0 r (L ++ [x]) H1 := by
  intro k y hy
  by_cases hk : k < L.length
  · rw [List.getElem?_append_left hk] at hy
    exact (h k y hy).kept (hl _ (show N0 + r + k < N0 + r + L.length by omega))
  · rw [List.getElem?_append_right (by omega)] at hy
    have hz : k - L.length < 1 := (List.getElem?_eq_some_iff.mp hy).1
    have hk2 : k = L.length := by omega
    subst hk2
    rw [Nat.sub_self] at hy
    cases hy
    exact hx
theorem rp_P.join {D : va_G} {N0 r r' : Nat} {L L' : List va_E} {H H1 : Heap} (hr : r' = r + L.length) (h : rp_P D N0 r L H) (hl : ∀ q : Nat, q < N0 + r' → H1[q]? = H[q]?) (h' : rp_P D N0 r' L' H1) : rp_P D N0 r (L ++ L') H1 := by
  intro k y hy
  by_cases hk : k < L.length
  · rw [List.getElem?_append_left hk] at hy
    exact (h k y hy).kept (hl _ (show N0 + r + k < N0 + r' by omega))
  · rw [List.getElem?_append_right (by omega)] at hy
    have := h' _ y hy
    rw [show N0 + r' + (k - L.length) = N0 + r + k by omega] at this
    exact this
theorem rp_P.left {D : va_G} {N0 r : Nat} {L L' : List va_E} {H : Heap} (h : rp_P D N0 r (L ++ L') H) : rp_P D N0 r L H := fun k y hy => h k y (by rw [List.getElem?_append_left (List.getElem?_eq_some_iff.mp hy).1]; exact hy)
theorem rp_P.right {D : va_G} {N0 r r' : Nat} {L L' : List va_E} {H : Heap} (hr : r' = r + L.length) (h : rp_P D N0 r (L ++ L') H) : rp_P D N0 r' L' H := fun k y hy => by
  have := h (L.length + k) y (by rw [List.getElem?_append_right (by omega), Nat.add_sub_cancel_left]; exact hy)
  rw [show N0 + r + (L.length + k) = N0 + r' + k by omega] at this
  exact this
/-- where a constructor stands: r the number of its first cell, L what is made so far -/
def rp_I (D : va_G) (N0 r : Nat) (s : State) (L : List va_E) (H : Heap) (locs : List Loc) (cells : Nat) : Prop := H.size = N0 + r + L.length ∧ s.heap.size + cells = H.size ∧ rp_P D N0 r L H ∧ va_S (fun q : Nat => N0 + r ≤ q) s.heap H locs
def rp_Fx (p : Program) (s : State) (m : MethodId) (args : Array Value) (c : Code) (own : String) (cc : ByteArray) (nL : Nat) (D : va_G) (cA : Nat → ClassId) : Prop := p.tables.exec = Jvm.exec ∧ c.code = cc ∧ c.maxLocals = nL ∧ s.vm.findClass own = some m.cls ∧ (∀ w ∈ ra_tb, w.before args s = true) ∧ va_K D vwCl (ra_ty cA) s
def rp_txt : String := "stick beat times pause law ahead player sees hears dares wrong "
def rp_byt : List Int32 := [115, 116, 105, 99, 107, 32, 98, 101, 97, 116, 32, 116, 105, 109, 101, 115, 32, 112, 97, 117, 115, 101, 32, 108, 97, 119, 32, 97, 104, 101, 97, 100, 32, 112, 108, 97, 121, 101, 114, 32, 115, 101, 101, 115, 32, 104, 101, 97, 114, 115, 32, 100, 97, 114, 101, 115, 32, 119, 114, 111, 110, 103, 32]
/-- what is known of the text of the words and of String's statics -/
def rp_Z (N0 sk sv : Nat) (U : State) (H : Heap) : Prop := vk_R RX10 18 rp_txt sk U ∧ (vk_S 1 [63] [rp_byt] (fun _ => sk) (fun _ => sv) (fun q : Nat => N0 ≤ q) U H ∧ va_Z "java/lang/String" "COMPACT_STRINGS" "Z" (.int 1) (fun q : Nat => N0 ≤ q) U H ∧ va_Zq "jdk/internal/util/Preconditions" "SIOOBE_FORMATTER" "Ljava/util/function/BiFunction;" (fun q : Nat => N0 ≤ q) U H)
theorem rp_Z.warm {N0 sk sv : Nat} {s U : State} {H : Heap} (hW : s.WarmedH U.vm) (h : rp_Z N0 sk sv s H) : rp_Z N0 sk sv U H := ⟨vk_R.warm hW h.1, vk_S.moved hW.alike h.2.1, va_Z.moved hW.alike h.2.2.1, va_Zq.moved hW.alike h.2.2.2⟩
theorem rp_Z.same {N0 sk sv : Nat} {u U : State} {H : Heap} (hv : u.vm = U.vm) (h : rp_Z N0 sk sv u H) : rp_Z N0 sk sv U H := by
  have hal : u.vm.Alike U.vm := by rw [hv]; exact Vm.Alike.refl U.vm
  exact ⟨vk_R.same hv.symm h.1, vk_S.moved hal h.2.1, va_Z.moved hal h.2.2.1, va_Zq.moved hal h.2.2.2⟩
theorem rp_Z.kept {N0 sk sv : Nat} {U : State} {H H1 : Heap} (h : rp_Z N0 sk sv U H) (hq : ∀ a : Nat, a < H.size → ¬ N0 ≤ a → H1[a]? = H[a]?) : rp_Z N0 sk sv U H1 := ⟨h.1, vk_S.kept h.2.1 hq, va_Z.kept h.2.2.1 hq, va_Zq.kept h.2.2.2 hq⟩
def rp_pre (D : va_G) (cA : Nat → ClassId) (N0 r sk sv : Nat) (x : va_E) (U : State) : Prop := U.heap.size = N0 + r + 1 ∧ rp_P D N0 r [x] U.heap ∧ va_K D vwCl (ra_ty cA) U ∧ (∀ w ∈ ra_nest, va_Nw w U) ∧ rp_Z N0 sk sv U U.heap
theorem rp_blind {D : va_G} {cA : Nat → ClassId} {N0 r sk sv : Nat} {x : va_E} {av : List Value} : FrameBlind (va_Pc av (rp_pre D cA N0 r sk sv x)) := by
  intro a U g mk q
  obtain ⟨q0, q1, q2, qK, qN, qZ⟩ := q
  refine ⟨q0, q1, q2, va_K.moved (u := U) (U := U.calling g mk a) (Vm.Alike.refl U.vm) qK, fun w hw => ?_, rp_Z.same (u := U) (U := U.calling g mk a) rfl qZ⟩
  have h1 := qN w hw
  unfold ra_nest at hw
  simp only [List.mem_cons, List.not_mem_nil, or_false] at hw
  rcases hw with rfl | rfl | rfl | rfl | rfl | rfl
  all_goals exact va_Nw.same (u := U) (U := U.calling g mk a) rfl rfl h1
def rp_Q (D : va_G) (N0 r : Nat) (post : List va_E → Prop) : Array Value → State → Outcome → State → Prop := va_Qv (S := List va_E) post (fun L t => t.heap.size = N0 + r + L.length ∧ rp_P D N0 r L t.heap) (fun q : Nat => N0 + r ≤ q)
/-- a constructor's contract -/
def rp_M (l : Launch) (y : MethodName) (cc : ByteArray) (maxL : Nat) (rm : Room) (D : va_G) (cA : Nat → ClassId) (N0 r sk sv : Nat) (x : va_E) (post : List va_E → Prop) (mc ms : Nat) : Prop :=
  Met l y (Cond.code y cc maxL none :: ra_tb) rm (va_Pc [.ref (N0 + r)] (rp_pre D cA N0 r sk sv x)) (rp_Q D N0 r post) mc ms (fun q : Nat => N0 + r ≤ q)
section RPA
variable {p : Program} {l : Launch} {e : Env} {R : Room} {s : State} {m : MethodId} {args : Array Value} {below : List Frame} {meth : Method} {c : Code} {H : Heap} {locs : List Loc} {cells slots : Nat} {Q : State → Prop}
variable {own : String} {cc : ByteArray} {nL : Nat} {D : va_G} {cA : Nat → ClassId} {N0 r sk sv pc : Nat} {L : List va_E} {ls : Array Slot} {rest : List Value}
theorem rp_sz {g : JFrame} (k : H.size ≤ s.heap.size + cells → W p l e R s m args below meth c H locs cells slots Q g) : W p l e R s m args below meth c H locs cells slots Q g := fun T hT X => k (by
  have h : T.heap.size ≤ s.heap.size + cells := X.same.2.2.1
  rw [hT] at h
  exact h) T hT X
theorem rp_newq {q N : Nat} {atype : ArrayType} {a0 : vp_A} (hF : rp_Fx p s m args c own cc nL D cA) (hI : rp_I D N0 r s L H locs cells) (hw : Cond.arrayClass (newarray.typeOf atype) ∈ ra_tb) (hq : (ra_ty cA)[q]? = some (cA q, newarray.typeOf atype)) (hra : va_RA s (cA q) (newarray.typeOf atype) → s.vm.findClass ("[" ++ (newarray.typeOf atype).toString) = some (cA q))
    (ha : vp_cell (cA q) a0 = arrV (cA q) N (fun _ => defaultValue (newarray.typeOf atype))) {n : Int32} (hn : ¬ n < 0) (hN : n.toNatClampNeg = N) (hbytes : N * componentBytes (newarray.typeOf atype) ≤ 536870912) (hcells : cells + 1 ≤ R.cells) (hslots : slots + N ≤ R.slots) (hdg : decode cc pc = .ok (.newarray atype, 2))
    (kk : ∀ H1 : Heap, rp_I D N0 r s (L ++ [.inl (cA q, a0)]) H1 locs (cells + 1) → W p l e R s m args below meth c H1 locs (cells + 1) (slots + N) Q (F0 m (pc + 2) ls (.ref (N0 + r + L.length) :: rest))) : W p l e R s m args below meth c H locs cells slots Q (F0 m pc ls (.int n :: rest)) := by
  obtain ⟨hx, hb, -, -, hts, hK⟩ := hF
  obtain ⟨i1, i2, i3, i4⟩ := hI
  refine va_newaK hx hb (hts _ hw) rfl hdg rfl hn hN hbytes hcells hslots i1 fun H1 cA' e1 z1 o1 _ hNm => ?_
  have hc : cA' = cA q := Option.some.inj (hNm.symm.trans (hra (hK.2 q _ hq).2))
  rw [hc] at e1
  refine kk H1 ⟨by rw [z1, List.length_append]; rfl, by omega, i3.snoc o1 ?_, ⟨by have := i4.1; omega, fun y h1 h2 => (o1 y (by have := i4.1; omega)).trans (i4.2.1 y h1 h2), i4.2.2⟩⟩
  show H1[N0 + r + L.length]? = some (vp_cell (cA q) a0)
  rw [ha]
  exact e1
theorem rp_put (hF : rp_Fx p s m args c own cc nL D cA) (hin2 : meth.name = "<init>") {ci : Nat} {fs : List Value} {T0 : List va_E} (hI : rp_I D N0 r s (.inr (ci, fs) :: T0) H locs cells) {q : vw_C} (hc : vwCl[ci]? = some q) {k index : Nat} {v : Value} {ty : FieldType} (hk : k < q.2.2) (hl : k < fs.length)
    (hlk : Cond.fieldLink own index (q.2.1 k).1 (q.2.1 k).2.1 (q.2.1 k).2.2.1 ∈ ra_tb) (hdecl : (q.2.1 k).1 = own) (hd : parseFieldDescriptor (q.2.1 k).2.2.1 = some ty) (hn : narrow ty v = v) (hfit : fits ty v = true) (hdg : decode cc pc = .ok (.putfield index, 3))
    (kk : ∀ (H1 : Heap) (locs1 : List Loc), rp_I D N0 r s (.inr (ci, fs.set k v) :: T0) H1 locs1 cells → W p l e R s m args below meth c H1 locs1 cells slots Q (F0 m (pc + 3) ls rest)) : W p l e R s m args below meth c H locs cells slots Q (F0 m pc ls (v :: .ref (N0 + r) :: rest)) := by
  obtain ⟨hx, hb, -, hown, hts, hK⟩ := hF
  obtain ⟨i1, i2, i3, i4⟩ := hI
  obtain ⟨C, T, N⟩ := q
  obtain ⟨ty0, hty, hnm⟩ := ra_tys ci _ hc
  have hin := ra_lays ci _ hc
  have hap := va_apart (own := own) hts hin ty0 hty hnm hK hc
  obtain ⟨r', h1, cell, q1, q2, q3, q4⟩ := i3 0 _ rfl
  have hr : r' = (C, T, N) := Option.some.inj (h1.symm.trans hc)
  subst hr
  obtain ⟨hS, hfc, kC, hkC, hkind⟩ := hK.1 ci _ hc
  obtain ⟨cf, kf, fi, f, hi, hsl⟩ := hS k hk
  have hlay := hts _ (hin _ (u_in_lay hk))
  have hst := (u_facts hfc hkC (u_lays hts hin hk) hi).1
  have fin : ∀ H' : Heap, H'[N0 + r + 0]? = some (cell.setSlot f.slot v) → H'.size = H.size → (∀ q, q ≠ N0 + r + 0 → H'[q]? = H[q]?) → W p l e R s m args below meth c H' (locs ++ [⟨N0 + r + 0, f.slot⟩]) cells slots Q (F0 m (pc + 3) ls rest) := by
    intro H' e1 e2 e3
    rw [hsl] at e1 ⊢
    refine kk H' _ ⟨e2.trans i1, i2.trans e2.symm, ?_, i4.put e2 e3 (Nat.le_refl _)⟩
    intro j x hj
    cases j with
    | zero =>
      cases hj
      exact ⟨_, hc, t_OB.to (V := updV (vp_V fs) k v) ⟨_, e1, q2, q3, t_set q4 hap hk v⟩ (fun j _ => vp_updV_set hl v j)⟩
    | succ j => exact (i3 (j + 1) x hj).kept (e3 _ (show N0 + r + (j + 1) ≠ N0 + r + 0 by omega))
  unfold u_lay at hlay
  by_cases hfin : (T k).2.2.2 = true
  · rw [if_pos hfin] at hlay
    have hcf : m.cls = cf := by
      obtain ⟨_, _, c', _, _, _, -, -, hf', -, -, -, hown2, -⟩ := Cond.laysFinal_spec hlay
      have e1 : c' = cf := by have := hi.symm.trans hf'; simp at this; exact this.1.symm
      rw [show (T k).1 = own from hdecl] at hown2
      rw [← e1]; exact Option.some.inj (hown.symm.trans hown2)
    have h6 := u_fits hfc hkC hkind (Or.inr hlay) hi hd hn hfit
    exact W.putFinK hx hb hown (hts _ hlk) hi hst hcf hin2 (by rw [q2]; exact h6) q1 q3 (by rw [hsl]; exact k2_hasslot (q4 k hk)) rfl rfl hdg fin
  · rw [if_neg hfin] at hlay
    have h6 := u_store hfc hkC hkind hlay hi hd hn hfit
    exact W.putK hx hb (f := f) ⟨hown, hts _ hlk, ⟨_, _, _, hi⟩, hst⟩ (by rw [q2]; exact h6) q1 q3 (by rw [hsl]; exact k2_hasslot (q4 k hk)) rfl rfl hdg fin
theorem rp_newo (hF : rp_Fx p s m args c own cc nL D cA) (hI : rp_I D N0 r s L H locs cells) {ci index : Nat} {q : vw_C} (hc : vwCl[ci]? = some q) (hcl : Cond.classLink own index q.1 ∈ ra_tb) (hinst : Cond.instantiable q.1 q.2.2 ∈ ra_tb) (hini : Cond.initialized q.1 ∈ ra_tb) {ty : Nat → FieldType} (hty : ∀ k, k < q.2.2 → parseFieldDescriptor (q.2.1 k).2.2.1 = some (ty k)) {fs : List Value} (hfs : ∀ j, j < q.2.2 → defaultValue (ty j) = vp_V fs j)
    (hcells : cells + 1 ≤ R.cells) (hslots : slots + q.2.2 ≤ R.slots) (hdg : decode cc pc = .ok (.new index, 3))
    (kk : ∀ H1 : Heap, rp_I D N0 r s (L ++ [.inr (ci, fs)]) H1 locs (cells + 1) → W p l e R s m args below meth c H1 locs (cells + 1) (slots + q.2.2) Q (F0 m (pc + 3) ls (.ref (N0 + r + L.length) :: rest))) : W p l e R s m args below meth c H locs cells slots Q (F0 m pc ls rest) := by
  obtain ⟨hx, hb, -, hown, hts, hK⟩ := hF
  obtain ⟨i1, i2, i3, i4⟩ := hI
  obtain ⟨C, T, N⟩ := q
  have hin := ra_lays ci _ hc
  have hKn := hK.1 ci _ hc
  refine W.newcK hx hb hown (hts _ hcl) (hts _ hinst) (hts _ hini) rfl hdg hcells hslots hKn.2.1 i1 fun H1 kC hkC e1 z1 o1 => ?_
  exact kk H1 ⟨by rw [z1, List.length_append]; rfl, by omega, i3.snoc o1 ⟨_, hc, (u_born ty hts hin hKn hkC e1 hty).to hfs⟩, ⟨by have := i4.1; omega, fun y h1 h2 => (o1 y (by have := i4.1; omega)).trans (i4.2.1 y h1 h2), i4.2.2⟩⟩
theorem rp_good {y : MethodName} {bytes : ByteArray} {maxL : Nat} {ret : Option FieldType} (h : Cond.code y bytes maxL ret ∈ ra_tb) : GoodIn ra_tb (Cond.code y bytes maxL ret :: ra_tb) := by
  intro w hw
  rcases List.mem_cons.mp hw with rfl | hw
  · exact ⟨h, good_of_word (List.mem_filter.mp h).2⟩
  · exact ⟨hw, good_of_word (List.mem_filter.mp hw).2⟩
theorem rp_call (hF : rp_Fx p s m args c own cc nL D cA) (hN : ∀ w ∈ ra_nest, va_Nw w s) (hZ : rp_Z N0 sk sv s s.heap) {x : va_E} (hI : rp_I D N0 r s (L ++ [x]) H locs cells) {y : MethodName} {bytes : ByteArray} {maxL r' mc ms index : Nat} {rm : Room} {post : List va_E → Prop} (hr' : r' = r + L.length) (hM : rp_M l y bytes maxL rm D cA N0 r' sk sv x post mc ms) (hlen : ∀ Lr, post Lr → Lr.length = mc + 1)
    (hcode : Cond.code y bytes maxL none ∈ ra_tb) (hini : Cond.initialized y.cls ∈ ra_tb) (hlk : Cond.methodLink own index y ∈ ra_tb) (hins : Cond.instanceMethod y ∈ ra_tb) (hy : y.name = "<init>") (hd : y.cls ≠ "java/lang/invoke/MethodHandle" ∧ y.cls ≠ "java/lang/invoke/VarHandle" ∧ (parseMethodDescriptor y.desc).map (fun d => d.parameters.length) = some 0) (hrm : rm.cells = mc ∧ rm.slots = ms) (hR : rm.frames + 1 ≤ R.frames ∧ 8 + (maxL + 11) + rm.locals ≤ R.locals)
    (hsize : ls.size = nL) (hrest : (rest.map fun v => v.category).sum ≤ 8) (hdg : decode cc pc = .ok (.invokespecial index, 3)) (hf : cells + mc ≤ R.cells ∧ slots + ms ≤ R.slots)
    (kk : ∀ (Lr : List va_E) (H1 : Heap) (locs1 : List Loc), post Lr → rp_I D N0 r s (L ++ Lr) H1 locs1 (cells + mc) → W p l e R s m args below meth c H1 locs1 (cells + mc) (slots + ms) Q (F0 m (pc + 3) ls rest)) : W p l e R s m args below meth c H locs cells slots Q (F0 m pc ls (.ref (N0 + r') :: rest)) := by
  obtain ⟨hx, hb, hml, hown, hts, hK⟩ := hF
  obtain ⟨i1, i2, i3, i4⟩ := hI
  have i1' : H.size = N0 + r' + 1 := by rw [i1, List.length_append, hr']; show N0 + r + (L.length + 1) = N0 + (r + L.length) + 1; omega
  refine va_callv (S := List va_E) (post := post) (B := fun L t => t.heap.size = N0 + r' + L.length ∧ rp_P D N0 r' L t.heap) (A1 := fun q : Nat => N0 + r' ≤ q) (a := ([.ref (N0 + r')] : List Value).toArray) (free := fun q : Nat => N0 + r' ≤ q) (rest := rest)
    (va_runI (As := []) (rest := rest) (own := own) ⟨hx, hb, hml, hown, hts⟩ hM (cwI 0 hts (rp_good hcode) rfl hrm.1 hrm.2 (hts _ hini) (hts _ hlk) (hts _ hins) hy hd hR) ⟨rp_blind, fun U hU hW => ⟨rfl, by rw [hU]; exact i1', by rw [hU]; exact i3.right hr', va_K.moved hW.alike hK, ra_nest_warm hW hN, by rw [hU]; exact (hZ.kept (fun a h1 h2 => i4.2.1 a h1 (fun z => h2 (by omega)))).warm hW⟩⟩ rfl rfl hsize rfl (lv_room hrest) hdg hf)
    i4 (fun q _ h => by omega) (fun q h => by omega) (fun Lr t H1 locs1 ht hvm hw hB hz hk hS => ?_)
  rw [ht] at hB
  have hlr := hlen Lr hw
  refine kk Lr H1 locs1 hw ⟨by rw [hB.1, List.length_append, hr']; omega, by rw [hB.1, hlr, ← Nat.add_assoc, i2, i1']; omega, rp_P.join hr' i3.left (fun q hq => hk q (by omega) (fun z => by omega)) hB.2, hS⟩
theorem rp_ret {post : List va_E → Prop} (hF : rp_Fx p s m args c own cc nL D cA) (hr : meth.sig.returnType = none) (hlocks : meth.locks = false) (hI : rp_I D N0 r s L H locs cells) (hpost : post L) (hdg : decode cc pc = .ok (.return_, 1)) :
    W p l e R s m args below meth c H locs cells slots (MQ below (rp_Q D N0 r post) args s cells slots (fun q : Nat => N0 + r ≤ q)) (F0 m pc ls []) := by
  obtain ⟨hx, hb, -⟩ := hF
  obtain ⟨i1, i2, i3, i4⟩ := hI
  exact W.vret hx hb hr (fun t ht hW => ⟨⟨L, rfl, hpost, by rw [ht]; exact i1, by rw [ht]; exact i3⟩, i4.F ht⟩) i4.2.2 hdg
/-- aload_0, Object's constructor -/
theorem rp_obj (hF : rp_Fx p s m args c own cc nL D cA) {a idx : Nat} (hl : ls[0]? = some (.val (.ref a))) (hsz : ls.size = nL) (hlk : Cond.methodLink own idx Lib.objectInit ∈ ra_tb) (d0 : decode cc 0 = .ok (.aload_n 0, 1)) (d1 : decode cc 1 = .ok (.invokespecial idx, 3)) (hR : 1 ≤ R.frames ∧ 12 ≤ R.locals)
    (k : W p l e R s m args below meth c H locs cells slots Q (F0 m 4 ls [])) : W p l e R s m args below meth c H locs cells slots Q (F0 m 0 ls []) := by
  obtain ⟨hx, hb, hml, hown, hts, hK⟩ := hF
  refine lv_aload_n hx hb d0 rfl hl ?_
  exact W.objInit hx hb hown (hts _ hlk) (hts _ (ra_tb_of (List.mem_of_getElem? (i := 32) (by decide +kernel)) rfl)) (hts _ (ra_tb_of (List.mem_of_getElem? (i := 33) (by decide +kernel)) rfl)) rfl (by rw [hml]; exact hsz) rfl d1 hR.1 (show 2 * 0 + (([] : List Value).map fun v => v.category).sum + 12 ≤ R.locals from hR.2) k
/-- aload_0, a number, newarray, putfield -/
theorem rp_arr (hF : rp_Fx p s m args c own cc nL D cA) (hin2 : meth.name = "<init>") (hl : ls[0]? = some (.val (.ref (N0 + r)))) {ci : Nat} {fs : List Value} {T0 : List va_E} (hI : rp_I D N0 r s (.inr (ci, fs) :: T0) H locs cells) (q N : Nat) {atype : ArrayType} {a0 : vp_A} (hw : Cond.arrayClass (newarray.typeOf atype) ∈ ra_tb) (hq : (ra_ty cA)[q]? = some (cA q, newarray.typeOf atype)) (hra : va_RA s (cA q) (newarray.typeOf atype) → s.vm.findClass ("[" ++ (newarray.typeOf atype).toString) = some (cA q))
    (ha : vp_cell (cA q) a0 = arrV (cA q) N (fun _ => defaultValue (newarray.typeOf atype))) {n : Int32} (hn : ¬ n < 0) (hN : n.toNatClampNeg = N) (hbytes : N * componentBytes (newarray.typeOf atype) ≤ 536870912) (hcells : cells + 1 ≤ R.cells) (hslots : slots + N ≤ R.slots)
    {w : vw_C} (hc : vwCl[ci]? = some w) (k : Nat) {index pl : Nat} {ty : FieldType} (hk : k < w.2.2) (hkl : k < fs.length) (hlk : Cond.fieldLink own index (w.2.1 k).1 (w.2.1 k).2.1 (w.2.1 k).2.2.1 ∈ ra_tb) (hdecl : (w.2.1 k).1 = own) (hd : parseFieldDescriptor (w.2.1 k).2.2.1 = some ty) (hfit : ∀ z : Nat, narrow ty (.ref z) = .ref z ∧ fits ty (.ref z) = true)
    (hp : decode cc pc = .ok (.aload_n 0, 1)) (hpu : (∃ b : Int, decode cc (pc + 1) = .ok (.bipush b, 2) ∧ (Int8.ofInt b).toInt32 = n ∧ pl = 2) ∨ (∃ b : Int, decode cc (pc + 1) = .ok (.sipush b, 3) ∧ (Int16.ofInt b).toInt32 = n ∧ pl = 3)) (hnew : decode cc (pc + 1 + pl) = .ok (.newarray atype, 2)) (hput : decode cc (pc + 1 + pl + 2) = .ok (.putfield index, 3))
    (kk : ∀ (H1 : Heap) (locs1 : List Loc), rp_I D N0 r s (.inr (ci, fs.set k (.ref (N0 + r + (T0.length + 1)))) :: (T0 ++ [.inl (cA q, a0)])) H1 locs1 (cells + 1) → W p l e R s m args below meth c H1 locs1 (cells + 1) (slots + N) Q (F0 m (pc + 1 + pl + 2 + 3) ls [])) : W p l e R s m args below meth c H locs cells slots Q (F0 m pc ls []) := by
  have hx := hF.1
  have hb := hF.2.1
  refine lv_aload_n hx hb hp rfl hl ?_
  have go : W p l e R s m args below meth c H locs cells slots Q (F0 m (pc + 1 + pl) ls [.int n, .ref (N0 + r)]) := by
    refine rp_newq hF hI hw hq hra ha hn hN hbytes hcells hslots hnew (fun H1 hI1 => ?_)
    exact rp_put hF hin2 (T0 := T0 ++ [.inl (cA q, a0)]) hI1 hc hk hkl hlk hdecl hd (hfit _).1 (hfit _).2 hput kk
  rcases hpu with ⟨b, h1, h2, rfl⟩ | ⟨b, h1, h2, rfl⟩
  · exact lv_bipush hx hb h1 h2 go
  · exact lv_sipush hx hb h1 h2 go
end RPA
theorem rp_start {l : Launch} {y : MethodName} {cc : ByteArray} {maxL : Nat} {rm : Room} {D : va_G} {cA : Nat → ClassId} {N0 r sk sv : Nat} {x : va_E} {post : List va_E → Prop} {mc ms : Nat} (hy : plainFor y = true) (hmax : 1 ≤ maxL) (hyn : y.name = "<init>")
    (body : ∀ (p : Program) (e : Env) (s : State) (m : MethodId) (args : Array Value) (below : List Frame) (meth : Method) (c : Code) (ls : Array Slot), rp_Fx p s m args c y.cls cc maxL D cA → (∀ w ∈ ra_nest, va_Nw w s) → rp_Z N0 sk sv s s.heap → meth.name = "<init>" → meth.sig.returnType = none → meth.locks = false → rp_I D N0 r s [x] s.heap [] 0 → s.heap.size = N0 + r + 1 → lv_has ls maxL [(0, .ref (N0 + r))] →
      W p l e rm s m args below meth c s.heap [] 0 0 (MQ below (rp_Q D N0 r post) args s mc ms (fun q : Nat => N0 + r ≤ q)) (F0 m 0 ls [])) : rp_M l y cc maxL rm D cA N0 r sk sv x post mc ms := by
  refine ra_ofW (cc := cc) (maxL := maxL) (ret := none) hy rfl ?_
  intro p e s m args below meth c s₁ B hml hv
  obtain ⟨rfl, hsz, hP, hK, hN, hZ⟩ := hv
  have hts0 := atoms_spec (ws := Cond.code y cc maxL none :: ra_tb) B.pre
  have hts : ∀ w ∈ ra_tb, w.before ([.ref (N0 + r)] : List Value).toArray s = true := fun w hw => hts0 w (List.mem_cons_of_mem _ hw)
  have hown : s.vm.findClass y.cls = some m.cls := findClass_of_methodNamed B.named
  have hle := lv_entry ([.ref (N0 + r)]) (n := maxL) hmax
  rw [lg_entry_eq]
  generalize (lg_sl ([.ref (N0 + r)]) ++ List.replicate (maxL - (lg_sl ([.ref (N0 + r)])).length) Slot.unset).toArray = ls at hle ⊢
  exact body p e s m _ below meth c ls ⟨B.exec, B.bytes, hml, hown, hts, hK⟩ hN hZ ((name_of_methodNamed B.named B.method).1.trans hyn) B.returns B.notSynchronized ⟨hsz, rfl, hP, va_S.rf⟩ hsz hle
