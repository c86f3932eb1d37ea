-- ===== constructors: more rows, then those that make rows of numbers alone (by gen91.py) =====
theorem rp_wI : Cond.arrayClass (newarray.typeOf .int) ∈ ra_tb := (ra_tb_of (List.mem_of_getElem? (i := 128) (by decide +kernel)) rfl)
theorem rp_wZ : Cond.arrayClass (newarray.typeOf .boolean) ∈ ra_tb := (ra_tb_of (List.mem_of_getElem? (i := 224) (by decide +kernel)) rfl)
theorem rp_wJ : Cond.arrayClass (newarray.typeOf .long) ∈ ra_tb := (ra_tb_of (List.mem_of_getElem? (i := 1858) (by decide +kernel)) rfl)
section RPB
variable {p : Program} {l : Launch} {e : Env} {R : Room} {s : State} {m : MethodId} {args : Array Value} {below : List Frame} {meth : Method} {c : Code} {H : Heap} {locs : List Loc} {cells slots : Nat} {Q : State → Prop}
variable {own : String} {cc : ByteArray} {nL : Nat} {D : va_G} {cA : Nat → ClassId} {N0 r sk sv pc : Nat} {L : List va_E} {ls : Array Slot} {rest : List Value}
theorem rp_arrI (hF : rp_Fx p s m args c own cc nL D cA) (hin2 : meth.name = "<init>") (hl : ls[0]? = some (.val (.ref (N0 + r)))) {ci : Nat} {fs : List Value} {T0 : List va_E} (hI : rp_I D N0 r s (.inr (ci, fs) :: T0) H locs cells) (N : Nat) {n : Int32} (hn : ¬ n < 0) (hN : n.toNatClampNeg = N) (hcells : cells + 1 ≤ R.cells) (hslots : slots + N ≤ R.slots) (hbytes : N * componentBytes (newarray.typeOf .int) ≤ 536870912)
    {w : vw_C} (hc : vwCl[ci]? = some w) (k : Nat) {index pl : Nat} (hk : k < w.2.2) (hkl : k < fs.length) (hlk : Cond.fieldLink own index (w.2.1 k).1 (w.2.1 k).2.1 (w.2.1 k).2.2.1 ∈ ra_tb) (hdecl : (w.2.1 k).1 = own) (hd : parseFieldDescriptor (w.2.1 k).2.2.1 = some (.array .int))
    (hp : decode cc pc = .ok (.aload_n 0, 1)) (hpu : (∃ b : Int, decode cc (pc + 1) = .ok (.bipush b, 2) ∧ (Int8.ofInt b).toInt32 = n ∧ pl = 2) ∨ (∃ b : Int, decode cc (pc + 1) = .ok (.sipush b, 3) ∧ (Int16.ofInt b).toInt32 = n ∧ pl = 3)) (hnew : decode cc (pc + 1 + pl) = .ok (.newarray .int, 2)) (hput : decode cc (pc + 1 + pl + 2) = .ok (.putfield index, 3))
    (kk : ∀ (H1 : Heap) (locs1 : List Loc), rp_I D N0 r s (.inr (ci, fs.set k (.ref (N0 + r + (T0.length + 1)))) :: (T0 ++ [.inl (cA 0, N, .inl (fun _ => 0))])) H1 locs1 (cells + 1) → W p l e R s m args below meth c H1 locs1 (cells + 1) (slots + N) Q (F0 m (pc + 1 + pl + 2 + 3) ls [])) : W p l e R s m args below meth c H locs cells slots Q (F0 m pc ls []) :=
  rp_arr hF hin2 hl hI 0 N (atype := .int) (a0 := (N, .inl (fun _ => 0))) rp_wI rfl (fun h => h) rfl hn hN hbytes hcells hslots hc k hk hkl hlk hdecl hd (fun z => ⟨rfl, rfl⟩) hp hpu hnew hput kk
theorem rp_arrZ (hF : rp_Fx p s m args c own cc nL D cA) (hin2 : meth.name = "<init>") (hl : ls[0]? = some (.val (.ref (N0 + r)))) {ci : Nat} {fs : List Value} {T0 : List va_E} (hI : rp_I D N0 r s (.inr (ci, fs) :: T0) H locs cells) (N : Nat) {n : Int32} (hn : ¬ n < 0) (hN : n.toNatClampNeg = N) (hcells : cells + 1 ≤ R.cells) (hslots : slots + N ≤ R.slots) (hbytes : N * componentBytes (newarray.typeOf .boolean) ≤ 536870912)
    {w : vw_C} (hc : vwCl[ci]? = some w) (k : Nat) {index pl : Nat} (hk : k < w.2.2) (hkl : k < fs.length) (hlk : Cond.fieldLink own index (w.2.1 k).1 (w.2.1 k).2.1 (w.2.1 k).2.2.1 ∈ ra_tb) (hdecl : (w.2.1 k).1 = own) (hd : parseFieldDescriptor (w.2.1 k).2.2.1 = some (.array .boolean))
    (hp : decode cc pc = .ok (.aload_n 0, 1)) (hpu : (∃ b : Int, decode cc (pc + 1) = .ok (.bipush b, 2) ∧ (Int8.ofInt b).toInt32 = n ∧ pl = 2) ∨ (∃ b : Int, decode cc (pc + 1) = .ok (.sipush b, 3) ∧ (Int16.ofInt b).toInt32 = n ∧ pl = 3)) (hnew : decode cc (pc + 1 + pl) = .ok (.newarray .boolean, 2)) (hput : decode cc (pc + 1 + pl + 2) = .ok (.putfield index, 3))
    (kk : ∀ (H1 : Heap) (locs1 : List Loc), rp_I D N0 r s (.inr (ci, fs.set k (.ref (N0 + r + (T0.length + 1)))) :: (T0 ++ [.inl (cA 1, N, .inl (fun _ => 0))])) H1 locs1 (cells + 1) → W p l e R s m args below meth c H1 locs1 (cells + 1) (slots + N) Q (F0 m (pc + 1 + pl + 2 + 3) ls [])) : W p l e R s m args below meth c H locs cells slots Q (F0 m pc ls []) :=
  rp_arr hF hin2 hl hI 1 N (atype := .boolean) (a0 := (N, .inl (fun _ => 0))) rp_wZ rfl (fun h => h) rfl hn hN hbytes hcells hslots hc k hk hkl hlk hdecl hd (fun z => ⟨rfl, rfl⟩) hp hpu hnew hput kk
/-- aload_0, a number, putfield -/
theorem rp_int (hF : rp_Fx p s m args c own cc nL D cA) (hin2 : meth.name = "<init>") (hl : ls[0]? = some (.val (.ref (N0 + r)))) {ci : Nat} {fs : List Value} {T0 : List va_E} (hI : rp_I D N0 r s (.inr (ci, fs) :: T0) H locs cells) {n : Int32} {w : vw_C} (hc : vwCl[ci]? = some w) (k : Nat) {index pl : Nat} {ty : FieldType} (hk : k < w.2.2) (hkl : k < fs.length) (hlk : Cond.fieldLink own index (w.2.1 k).1 (w.2.1 k).2.1 (w.2.1 k).2.2.1 ∈ ra_tb) (hdecl : (w.2.1 k).1 = own) (hd : parseFieldDescriptor (w.2.1 k).2.2.1 = some ty) (hfit : narrow ty (.int n) = .int n ∧ fits ty (.int n) = true)
    (hp : decode cc pc = .ok (.aload_n 0, 1)) (hpu : (∃ b : Int, decode cc (pc + 1) = .ok (.iconst b, 1) ∧ Int32.ofInt b = n ∧ pl = 1) ∨ (∃ b : Int, decode cc (pc + 1) = .ok (.bipush b, 2) ∧ (Int8.ofInt b).toInt32 = n ∧ pl = 2)) (hput : decode cc (pc + 1 + pl) = .ok (.putfield index, 3))
    (kk : ∀ (H1 : Heap) (locs1 : List Loc), rp_I D N0 r s (.inr (ci, fs.set k (.int n)) :: T0) H1 locs1 cells → W p l e R s m args below meth c H1 locs1 cells slots Q (F0 m (pc + 1 + pl + 3) ls [])) : W p l e R s m args below meth c H locs cells slots Q (F0 m pc ls []) := by
  have hx := hF.1
  have hb := hF.2.1
  refine lv_aload_n hx hb hp rfl hl ?_
  have go : W p l e R s m args below meth c H locs cells slots Q (F0 m (pc + 1 + pl) ls [.int n, .ref (N0 + r)]) := rp_put hF hin2 hI hc hk hkl hlk hdecl hd hfit.1 hfit.2 hput kk
  rcases hpu with ⟨b, h1, h2, rfl⟩ | ⟨b, h1, h2, rfl⟩
  · exact lv_iconst hx hb h1 h2 go
  · exact lv_bipush hx hb h1 h2 go
/-- aload_0, new, dup, its constructor, putfield -/
theorem rp_sub (hF : rp_Fx p s m args c own cc nL D cA) (hin2 : meth.name = "<init>") (hN : ∀ w ∈ ra_nest, va_Nw w s) (hZ : rp_Z N0 sk sv s s.heap) (hl : ls[0]? = some (.val (.ref (N0 + r)))) (hsize : ls.size = nL) {ci : Nat} {fs : List Value} {T0 : List va_E} (hI : rp_I D N0 r s (.inr (ci, fs) :: T0) H locs cells) {cj i1 : Nat} {v : vw_C} (hcj : vwCl[cj]? = some v) (hcl : Cond.classLink own i1 v.1 ∈ ra_tb) (hinst : Cond.instantiable v.1 v.2.2 ∈ ra_tb) (hini : Cond.initialized v.1 ∈ ra_tb) {ty : Nat → FieldType} (hty : ∀ k, k < v.2.2 → parseFieldDescriptor (v.2.1 k).2.2.1 = some (ty k)) {gs : List Value} (hfs : ∀ j, j < v.2.2 → defaultValue (ty j) = vp_V gs j)
    (hcells : cells + 1 ≤ R.cells) (hslots : slots + v.2.2 ≤ R.slots) {y : MethodName} {bytes : ByteArray} {maxL mc ms i2 : Nat} {rm : Room} {post : List va_E → Prop} (hM : rp_M l y bytes maxL rm D cA N0 (r + (T0.length + 1)) sk sv (.inr (cj, gs)) post mc ms) (hlen : ∀ Lr, post Lr → Lr.length = mc + 1)
    (hcode : Cond.code y bytes maxL none ∈ ra_tb) (hmk : Cond.methodLink own i2 y ∈ ra_tb) (hins : Cond.instanceMethod y ∈ ra_tb) (hy : y.name = "<init>" ∧ y.cls = v.1) (hdd : y.cls ≠ "java/lang/invoke/MethodHandle" ∧ y.cls ≠ "java/lang/invoke/VarHandle" ∧ (parseMethodDescriptor y.desc).map (fun d => d.parameters.length) = some 0) (hrm : rm.cells = mc ∧ rm.slots = ms) (hR : rm.frames + 1 ≤ R.frames ∧ 8 + (maxL + 11) + rm.locals ≤ R.locals) (hf : cells + 1 + mc ≤ R.cells ∧ slots + v.2.2 + ms ≤ R.slots)
    {w : vw_C} (hc : vwCl[ci]? = some w) (k : Nat) {index : Nat} {ty2 : FieldType} (hk : k < w.2.2) (hkl : k < fs.length) (hlk : Cond.fieldLink own index (w.2.1 k).1 (w.2.1 k).2.1 (w.2.1 k).2.2.1 ∈ ra_tb) (hdecl : (w.2.1 k).1 = own) (hd : parseFieldDescriptor (w.2.1 k).2.2.1 = some ty2) (hfit : ∀ z : Nat, narrow ty2 (.ref z) = .ref z ∧ fits ty2 (.ref z) = true)
    (d0 : decode cc pc = .ok (.aload_n 0, 1)) (d1 : decode cc (pc + 1) = .ok (.new i1, 3)) (d2 : decode cc (pc + 1 + 3) = .ok (.dup, 1)) (d3 : decode cc (pc + 1 + 3 + 1) = .ok (.invokespecial i2, 3)) (d4 : decode cc (pc + 1 + 3 + 1 + 3) = .ok (.putfield index, 3))
    (kk : ∀ (Lr : List va_E) (H1 : Heap) (locs1 : List Loc), post Lr → rp_I D N0 r s (.inr (ci, fs.set k (.ref (N0 + (r + (T0.length + 1))))) :: (T0 ++ Lr)) H1 locs1 (cells + 1 + mc) → W p l e R s m args below meth c H1 locs1 (cells + 1 + mc) (slots + v.2.2 + ms) Q (F0 m (pc + 1 + 3 + 1 + 3 + 3) ls [])) : W p l e R s m args below meth c H locs cells slots Q (F0 m pc ls []) := by
  have hx := hF.1
  have hb := hF.2.1
  refine lv_aload_n hx hb d0 rfl hl ?_
  refine rp_newo hF hI hcj hcl hinst hini hty hfs hcells hslots d1 (fun H1 hI1 => ?_)
  have ea : N0 + r + (Sum.inr (ci, fs) :: T0 : List va_E).length = N0 + (r + (T0.length + 1)) := Nat.add_assoc _ _ _
  rw [ea]
  refine lv_dup hx hb d2 rfl ?_
  refine rp_call hF hN hZ (L := .inr (ci, fs) :: T0) hI1 (r' := r + (T0.length + 1)) rfl hM hlen hcode (by rw [hy.2]; exact hini) hmk hins hy.1 hdd hrm hR hsize (show (1 : Nat) + (1 + 0) ≤ 8 by decide) d3 hf (fun Lr H2 locs2 hp hI2 => ?_)
  exact rp_put hF hin2 (T0 := T0 ++ Lr) hI2 hc hk hkl hlk hdecl hd (hfit _).1 (hfit _).2 d4 (kk Lr · · hp)
/-- a store into a row of ints -/
theorem rp_iast (hF : rp_Fx p s m args c own cc nL D cA) (hI : rp_I D N0 r s L H locs cells) (j : Nat) {n : Nat} {f : Nat → Int32} (hj : L[j]? = some (.inl (cA 0, n, .inl f))) {i x : Int32} (hin : vp_in i n) (hdg : decode cc pc = .ok (.iastore, 1))
    (kk : ∀ (H1 : Heap) (locs1 : List Loc), rp_I D N0 r s (L.set j (.inl (cA 0, n, .inl (upd f i.toNatClampNeg x)))) H1 locs1 cells → W p l e R s m args below meth c H1 locs1 cells slots Q (F0 m (pc + 1) ls rest)) : W p l e R s m args below meth c H locs cells slots Q (F0 m pc ls (.int x :: .int i :: .ref (N0 + r + j) :: rest)) := by
  obtain ⟨hx, hb, -, -, hts, hK⟩ := hF
  obtain ⟨i1, i2, i3, i4⟩ := hI
  refine W.iast hx hb (i3 j _ hj) ((hK.2 0 (cA 0, .int) rfl).1 n (fun j => .int (f j))) (fun q => by cases q) (by show ¬ (i < 0 ∨ (arrV _ _ _).slots.size ≤ _); rw [arrV_size]; exact hin) rfl rfl hdg fun H1 e z oq => ?_
  refine kk H1 _ ⟨by rw [z, List.length_set]; exact i1, i2.trans z.symm, ?_, i4.put z oq (show N0 + r ≤ N0 + r + j by omega)⟩
  intro k y hy
  by_cases hk : k = j
  · subst hk
    rw [List.getElem?_set_self (List.getElem?_eq_some_iff.mp hj).1] at hy
    cases hy
    show H1[N0 + r + k]? = some (vp_cell _ _)
    rw [e]
    show some (Cell.setSlot (vp_cell (cA 0) (n, .inl f)) _ _) = _
    rw [vp_cell_i, vp_cell_i, arrV_store]
    congr 2
    funext q
    by_cases hq : q = i.toNatClampNeg
    · subst hq
      simp [updV, upd]
    · simp [updV, upd, hq]
  · rw [List.getElem?_set_ne (fun h => hk h.symm)] at hy
    exact (i3 k y hy).kept (oq _ (show N0 + r + k ≠ N0 + r + j by omega))
def rp_psh (cc : ByteArray) (pc : Nat) (v : Int32) : Option Nat := match decode cc pc with
  | .ok (.iconst b, 1) => if Int32.ofInt b = v then some 1 else none
  | .ok (.bipush b, 2) => if (Int8.ofInt b).toInt32 = v then some 2 else none
  | _ => none
theorem rp_push (hx : p.tables.exec = Jvm.exec) (hb : c.code = cc) {v : Int32} {a : Nat} (h : rp_psh cc pc v = some a) (k : W p l e R s m args below meth c H locs cells slots Q (F0 m (pc + a) ls (.int v :: rest))) : W p l e R s m args below meth c H locs cells slots Q (F0 m pc ls rest) := by
  unfold rp_psh at h
  split at h
  · rename_i b hd
    by_cases z : Int32.ofInt b = v
    · rw [if_pos z] at h
      cases h
      exact lv_iconst hx hb hd z k
    · rw [if_neg z] at h; cases h
  · rename_i b hd
    by_cases z : (Int8.ofInt b).toInt32 = v
    · rw [if_pos z] at h
      cases h
      exact lv_bipush hx hb hd z k
    · rw [if_neg z] at h; cases h
  · cases h
def rp_chkF (cc : ByteArray) : Nat → Nat → List Int32 → Nat → Bool
  | pc, _, [], z => Nat.beq pc z
  | pc, i, v :: vs, z => decide (decode cc pc = .ok (.dup, 1)) && (match rp_psh cc (pc + 1) (nI i) with
    | some a => (match rp_psh cc (pc + 1 + a) v with
      | some b => decide (decode cc (pc + 1 + a + b) = .ok (.iastore, 1)) && rp_chkF cc (pc + 1 + a + b + 1) (i + 1) vs z
      | none => false)
    | none => false)
/-- dup, a place, a number, iastore, and so on: the last cell's row is filled -/
theorem rp_fill (hF : rp_Fx p s m args c own cc nL D cA) {n : Nat} (hn : n < 2147483648) {z : Nat} : ∀ (vs : List Int32) (pc i : Nat) (f : Nat → Int32) (H : Heap) (locs : List Loc), rp_chkF cc pc i vs z = true → i + vs.length ≤ n → rp_I D N0 r s (L ++ [.inl (cA 0, n, .inl f)]) H locs cells →
    (∀ (g : Nat → Int32) (H1 : Heap) (locs1 : List Loc), (∀ j, j < i → g j = f j) → (∀ j, j < vs.length → g (i + j) = vs.getD j 0) → rp_I D N0 r s (L ++ [.inl (cA 0, n, .inl g)]) H1 locs1 cells → W p l e R s m args below meth c H1 locs1 cells slots Q (F0 m z ls (.ref (N0 + r + L.length) :: rest))) →
    W p l e R s m args below meth c H locs cells slots Q (F0 m pc ls (.ref (N0 + r + L.length) :: rest)) := by
  intro vs
  induction vs with
  | nil =>
    intro pc i f H locs hc hl hI kk
    have hz : pc = z := Nat.eq_of_beq_eq_true hc
    subst hz
    exact kk f H locs (fun _ _ => rfl) (fun j hj => absurd hj (Nat.not_lt_zero j)) hI
  | cons v vs ih =>
    intro pc i f H locs hc hl hI kk
    rw [List.length_cons] at hl
    have hx := hF.1
    have hb := hF.2.1
    unfold rp_chkF at hc
    rw [Bool.and_eq_true] at hc
    obtain ⟨h1, h2⟩ := hc
    split at h2
    · rename_i a ha
      split at h2
      · rename_i b hb2
        rw [Bool.and_eq_true] at h2
        obtain ⟨h3, h4⟩ := h2
        refine lv_dup hx hb (of_decide_eq_true h1) rfl ?_
        refine rp_push hx hb ha ?_
        refine rp_push hx hb hb2 ?_
        refine rp_iast hF hI L.length (by rw [List.getElem?_append_right (Nat.le_refl _), Nat.sub_self]; rfl) (vp_in_nI (show i < n by omega) (by omega)) (of_decide_eq_true h3) (fun H1 locs1 hI1 => ?_)
        rw [List.set_append, if_neg (Nat.lt_irrefl _), Nat.sub_self, nI_clamp (show i < 2 ^ 31 by omega)] at hI1
        refine ih _ (i + 1) (upd f i v) H1 locs1 h4 (by omega) hI1 (fun g H2 locs2 g1 g2 hI2 => kk g H2 locs2 (fun j hj => ?_) (fun j hj => ?_) hI2)
        · rw [g1 j (by omega)]
          unfold upd
          rw [if_neg (by omega)]
        · cases j with
          | zero =>
            rw [Nat.add_zero, g1 i (by omega)]
            unfold upd
            rw [if_pos rfl]
            rfl
          | succ j =>
            rw [show i + (j + 1) = i + 1 + j by omega, g2 j (by rw [List.length_cons] at hj; omega)]
            rfl
      · cases h2
    · cases h2
end RPB
def rp_L3 (cA : Nat → ClassId) (N0 r : Nat) : List va_E := [.inr (3, [.int 0, .ref (N0 + r + 1), .ref (N0 + r + 2), .ref (N0 + r + 3), .ref (N0 + r + 4)]), .inl (cA 0, 64, .inl (fun _ => 0)), .inl (cA 0, 64, .inl (fun _ => 0)), .inl (cA 0, 64, .inl (fun _ => 0)), .inl (cA 0, 64, .inl (fun _ => 0))]
theorem rp_X3_len {cA : Nat → ClassId} {N0 r : Nat} : ∀ L : List va_E, L = rp_L3 cA N0 r → L.length = 5 := fun L h => by rw [h]; rfl
set_option maxHeartbeats 4000000 in
theorem rp_X3 (l : Launch) (D : va_G) (cA : Nat → ClassId) (N0 r sk sv : Nat) : rp_M l yX3_init cX3_init 1 { frames := 1, cells := 4, slots := 256, locals := 12 } D cA N0 r sk sv (.inr (3, [.int 0, .null, .null, .null, .null])) (fun L => L = rp_L3 cA N0 r) 4 256 := by
  refine rp_start (by decide +kernel) (Nat.le_refl _) rfl ?_
  intro p e s m args below meth c ls hF hN hZ hin hr hlocks hI hsz hl
  refine rp_obj hF (idx := 3) (lv_at hl 0 rfl) hl.1 (ra_tb_of (List.mem_of_getElem? (i := 135) (by decide +kernel)) rfl) (by decide +kernel) (by decide +kernel) ⟨(Nat.le_of_ble_eq_true rfl), (Nat.le_of_ble_eq_true rfl)⟩ ?_
  refine rp_arrI hF hin (lv_at hl 0 rfl) hI 64 (n := 64) (by decide) (by decide) (Nat.le_of_ble_eq_true rfl) (Nat.le_of_ble_eq_true rfl) (Nat.le_of_ble_eq_true rfl) (w := (RX3, TX3, 5)) rfl 1 (index := 11) (pl := 2) (Nat.le_of_ble_eq_true rfl) (Nat.le_of_ble_eq_true rfl) (ra_tb_of (List.mem_of_getElem? (i := 138) (by decide +kernel)) rfl) rfl (by decide +kernel) (by decide +kernel) (Or.inl ⟨64, by decide +kernel, by decide, rfl⟩) (by decide +kernel) (by decide +kernel) (fun H locs hI => ?_)
  refine rp_arrI hF hin (lv_at hl 0 rfl) hI 64 (n := 64) (by decide) (by decide) (Nat.le_of_ble_eq_true rfl) (Nat.le_of_ble_eq_true rfl) (Nat.le_of_ble_eq_true rfl) (w := (RX3, TX3, 5)) rfl 2 (index := 15) (pl := 2) (Nat.le_of_ble_eq_true rfl) (Nat.le_of_ble_eq_true rfl) (ra_tb_of (List.mem_of_getElem? (i := 140) (by decide +kernel)) rfl) rfl (by decide +kernel) (by decide +kernel) (Or.inl ⟨64, by decide +kernel, by decide, rfl⟩) (by decide +kernel) (by decide +kernel) (fun H locs hI => ?_)
  refine rp_arrI hF hin (lv_at hl 0 rfl) hI 64 (n := 64) (by decide) (by decide) (Nat.le_of_ble_eq_true rfl) (Nat.le_of_ble_eq_true rfl) (Nat.le_of_ble_eq_true rfl) (w := (RX3, TX3, 5)) rfl 3 (index := 18) (pl := 2) (Nat.le_of_ble_eq_true rfl) (Nat.le_of_ble_eq_true rfl) (ra_tb_of (List.mem_of_getElem? (i := 142) (by decide +kernel)) rfl) rfl (by decide +kernel) (by decide +kernel) (Or.inl ⟨64, by decide +kernel, by decide, rfl⟩) (by decide +kernel) (by decide +kernel) (fun H locs hI => ?_)
  refine rp_arrI hF hin (lv_at hl 0 rfl) hI 64 (n := 64) (by decide) (by decide) (Nat.le_of_ble_eq_true rfl) (Nat.le_of_ble_eq_true rfl) (Nat.le_of_ble_eq_true rfl) (w := (RX3, TX3, 5)) rfl 4 (index := 21) (pl := 2) (Nat.le_of_ble_eq_true rfl) (Nat.le_of_ble_eq_true rfl) (ra_tb_of (List.mem_of_getElem? (i := 144) (by decide +kernel)) rfl) rfl (by decide +kernel) (by decide +kernel) (Or.inl ⟨64, by decide +kernel, by decide, rfl⟩) (by decide +kernel) (by decide +kernel) (fun H locs hI => ?_)
  exact rp_ret hF hr hlocks hI rfl (by decide +kernel)
def rp_L2 (cA : Nat → ClassId) (N0 r : Nat) : List va_E := [.inr (2, [.int 0, .ref (N0 + r + 1), .ref (N0 + r + 2), .ref (N0 + r + 3), .ref (N0 + r + 4)]), .inl (cA 0, 6, .inl (fun _ => 0)), .inl (cA 0, 24, .inl (fun _ => 0)), .inl (cA 0, 6, .inl (fun _ => 0)), .inl (cA 1, 6, .inl (fun _ => 0))]
theorem rp_X2_len {cA : Nat → ClassId} {N0 r : Nat} : ∀ L : List va_E, L = rp_L2 cA N0 r → L.length = 5 := fun L h => by rw [h]; rfl
set_option maxHeartbeats 4000000 in
theorem rp_X2 (l : Launch) (D : va_G) (cA : Nat → ClassId) (N0 r sk sv : Nat) : rp_M l yX2_init cX2_init 1 { frames := 1, cells := 4, slots := 42, locals := 12 } D cA N0 r sk sv (.inr (2, [.int 0, .null, .null, .null, .null])) (fun L => L = rp_L2 cA N0 r) 4 42 := by
  refine rp_start (by decide +kernel) (Nat.le_refl _) rfl ?_
  intro p e s m args below meth c ls hF hN hZ hin hr hlocks hI hsz hl
  refine rp_obj hF (idx := 3) (lv_at hl 0 rfl) hl.1 (ra_tb_of (List.mem_of_getElem? (i := 197) (by decide +kernel)) rfl) (by decide +kernel) (by decide +kernel) ⟨(Nat.le_of_ble_eq_true rfl), (Nat.le_of_ble_eq_true rfl)⟩ ?_
  refine rp_arrI hF hin (lv_at hl 0 rfl) hI 6 (n := 6) (by decide) (by decide) (Nat.le_of_ble_eq_true rfl) (Nat.le_of_ble_eq_true rfl) (Nat.le_of_ble_eq_true rfl) (w := (RX2, TX2, 5)) rfl 1 (index := 9) (pl := 2) (Nat.le_of_ble_eq_true rfl) (Nat.le_of_ble_eq_true rfl) (ra_tb_of (List.mem_of_getElem? (i := 202) (by decide +kernel)) rfl) rfl (by decide +kernel) (by decide +kernel) (Or.inl ⟨6, by decide +kernel, by decide, rfl⟩) (by decide +kernel) (by decide +kernel) (fun H locs hI => ?_)
  refine rp_arrI hF hin (lv_at hl 0 rfl) hI 24 (n := 24) (by decide) (by decide) (Nat.le_of_ble_eq_true rfl) (Nat.le_of_ble_eq_true rfl) (Nat.le_of_ble_eq_true rfl) (w := (RX2, TX2, 5)) rfl 2 (index := 15) (pl := 2) (Nat.le_of_ble_eq_true rfl) (Nat.le_of_ble_eq_true rfl) (ra_tb_of (List.mem_of_getElem? (i := 205) (by decide +kernel)) rfl) rfl (by decide +kernel) (by decide +kernel) (Or.inl ⟨24, by decide +kernel, by decide, rfl⟩) (by decide +kernel) (by decide +kernel) (fun H locs hI => ?_)
  refine rp_arrI hF hin (lv_at hl 0 rfl) hI 6 (n := 6) (by decide) (by decide) (Nat.le_of_ble_eq_true rfl) (Nat.le_of_ble_eq_true rfl) (Nat.le_of_ble_eq_true rfl) (w := (RX2, TX2, 5)) rfl 3 (index := 18) (pl := 2) (Nat.le_of_ble_eq_true rfl) (Nat.le_of_ble_eq_true rfl) (ra_tb_of (List.mem_of_getElem? (i := 207) (by decide +kernel)) rfl) rfl (by decide +kernel) (by decide +kernel) (Or.inl ⟨6, by decide +kernel, by decide, rfl⟩) (by decide +kernel) (by decide +kernel) (fun H locs hI => ?_)
  refine rp_arrZ hF hin (lv_at hl 0 rfl) hI 6 (n := 6) (by decide) (by decide) (Nat.le_of_ble_eq_true rfl) (Nat.le_of_ble_eq_true rfl) (Nat.le_of_ble_eq_true rfl) (w := (RX2, TX2, 5)) rfl 4 (index := 21) (pl := 2) (Nat.le_of_ble_eq_true rfl) (Nat.le_of_ble_eq_true rfl) (ra_tb_of (List.mem_of_getElem? (i := 210) (by decide +kernel)) rfl) rfl (by decide +kernel) (by decide +kernel) (Or.inl ⟨6, by decide +kernel, by decide, rfl⟩) (by decide +kernel) (by decide +kernel) (fun H locs hI => ?_)
  exact rp_ret hF hr hlocks hI rfl (by decide +kernel)
def rp_L6 (cA : Nat → ClassId) (N0 r : Nat) : List va_E := [.inr (6, [.int 0, .ref (N0 + r + 1), .ref (N0 + r + 2), .ref (N0 + r + 3), .ref (N0 + r + 4), .ref (N0 + r + 5), .ref (N0 + r + 6), .ref (N0 + r + 7), .ref (N0 + r + 8)]), .inl (cA 0, 8, .inl (fun _ => 0)), .inl (cA 0, 8, .inl (fun _ => 0)), .inl (cA 0, 8, .inl (fun _ => 0)), .inl (cA 0, 8, .inl (fun _ => 0)), .inl (cA 0, 8, .inl (fun _ => 0)), .inl (cA 0, 8, .inl (fun _ => 0)), .inl (cA 0, 8, .inl (fun _ => 0)), .inl (cA 0, 8, .inl (fun _ => 0))]
theorem rp_X6_len {cA : Nat → ClassId} {N0 r : Nat} : ∀ L : List va_E, L = rp_L6 cA N0 r → L.length = 9 := fun L h => by rw [h]; rfl
set_option maxHeartbeats 4000000 in
theorem rp_X6 (l : Launch) (D : va_G) (cA : Nat → ClassId) (N0 r sk sv : Nat) : rp_M l yX6_init cX6_init 1 { frames := 1, cells := 8, slots := 64, locals := 12 } D cA N0 r sk sv (.inr (6, [.int 0, .null, .null, .null, .null, .null, .null, .null, .null])) (fun L => L = rp_L6 cA N0 r) 8 64 := by
  refine rp_start (by decide +kernel) (Nat.le_refl _) rfl ?_
  intro p e s m args below meth c ls hF hN hZ hin hr hlocks hI hsz hl
  refine rp_obj hF (idx := 3) (lv_at hl 0 rfl) hl.1 (ra_tb_of (List.mem_of_getElem? (i := 230) (by decide +kernel)) rfl) (by decide +kernel) (by decide +kernel) ⟨(Nat.le_of_ble_eq_true rfl), (Nat.le_of_ble_eq_true rfl)⟩ ?_
  refine rp_arrI hF hin (lv_at hl 0 rfl) hI 8 (n := 8) (by decide) (by decide) (Nat.le_of_ble_eq_true rfl) (Nat.le_of_ble_eq_true rfl) (Nat.le_of_ble_eq_true rfl) (w := (RX6, TX6, 9)) rfl 1 (index := 9) (pl := 2) (Nat.le_of_ble_eq_true rfl) (Nat.le_of_ble_eq_true rfl) (ra_tb_of (List.mem_of_getElem? (i := 236) (by decide +kernel)) rfl) rfl (by decide +kernel) (by decide +kernel) (Or.inl ⟨8, by decide +kernel, by decide, rfl⟩) (by decide +kernel) (by decide +kernel) (fun H locs hI => ?_)
  refine rp_arrI hF hin (lv_at hl 0 rfl) hI 8 (n := 8) (by decide) (by decide) (Nat.le_of_ble_eq_true rfl) (Nat.le_of_ble_eq_true rfl) (Nat.le_of_ble_eq_true rfl) (w := (RX6, TX6, 9)) rfl 2 (index := 15) (pl := 2) (Nat.le_of_ble_eq_true rfl) (Nat.le_of_ble_eq_true rfl) (ra_tb_of (List.mem_of_getElem? (i := 239) (by decide +kernel)) rfl) rfl (by decide +kernel) (by decide +kernel) (Or.inl ⟨8, by decide +kernel, by decide, rfl⟩) (by decide +kernel) (by decide +kernel) (fun H locs hI => ?_)
  refine rp_arrI hF hin (lv_at hl 0 rfl) hI 8 (n := 8) (by decide) (by decide) (Nat.le_of_ble_eq_true rfl) (Nat.le_of_ble_eq_true rfl) (Nat.le_of_ble_eq_true rfl) (w := (RX6, TX6, 9)) rfl 3 (index := 18) (pl := 2) (Nat.le_of_ble_eq_true rfl) (Nat.le_of_ble_eq_true rfl) (ra_tb_of (List.mem_of_getElem? (i := 243) (by decide +kernel)) rfl) rfl (by decide +kernel) (by decide +kernel) (Or.inl ⟨8, by decide +kernel, by decide, rfl⟩) (by decide +kernel) (by decide +kernel) (fun H locs hI => ?_)
  refine rp_arrI hF hin (lv_at hl 0 rfl) hI 8 (n := 8) (by decide) (by decide) (Nat.le_of_ble_eq_true rfl) (Nat.le_of_ble_eq_true rfl) (Nat.le_of_ble_eq_true rfl) (w := (RX6, TX6, 9)) rfl 4 (index := 21) (pl := 2) (Nat.le_of_ble_eq_true rfl) (Nat.le_of_ble_eq_true rfl) (ra_tb_of (List.mem_of_getElem? (i := 246) (by decide +kernel)) rfl) rfl (by decide +kernel) (by decide +kernel) (Or.inl ⟨8, by decide +kernel, by decide, rfl⟩) (by decide +kernel) (by decide +kernel) (fun H locs hI => ?_)
  refine rp_arrI hF hin (lv_at hl 0 rfl) hI 8 (n := 8) (by decide) (by decide) (Nat.le_of_ble_eq_true rfl) (Nat.le_of_ble_eq_true rfl) (Nat.le_of_ble_eq_true rfl) (w := (RX6, TX6, 9)) rfl 5 (index := 24) (pl := 2) (Nat.le_of_ble_eq_true rfl) (Nat.le_of_ble_eq_true rfl) (ra_tb_of (List.mem_of_getElem? (i := 249) (by decide +kernel)) rfl) rfl (by decide +kernel) (by decide +kernel) (Or.inl ⟨8, by decide +kernel, by decide, rfl⟩) (by decide +kernel) (by decide +kernel) (fun H locs hI => ?_)
  refine rp_arrI hF hin (lv_at hl 0 rfl) hI 8 (n := 8) (by decide) (by decide) (Nat.le_of_ble_eq_true rfl) (Nat.le_of_ble_eq_true rfl) (Nat.le_of_ble_eq_true rfl) (w := (RX6, TX6, 9)) rfl 6 (index := 27) (pl := 2) (Nat.le_of_ble_eq_true rfl) (Nat.le_of_ble_eq_true rfl) (ra_tb_of (List.mem_of_getElem? (i := 254) (by decide +kernel)) rfl) rfl (by decide +kernel) (by decide +kernel) (Or.inl ⟨8, by decide +kernel, by decide, rfl⟩) (by decide +kernel) (by decide +kernel) (fun H locs hI => ?_)
  refine rp_arrI hF hin (lv_at hl 0 rfl) hI 8 (n := 8) (by decide) (by decide) (Nat.le_of_ble_eq_true rfl) (Nat.le_of_ble_eq_true rfl) (Nat.le_of_ble_eq_true rfl) (w := (RX6, TX6, 9)) rfl 7 (index := 30) (pl := 2) (Nat.le_of_ble_eq_true rfl) (Nat.le_of_ble_eq_true rfl) (ra_tb_of (List.mem_of_getElem? (i := 256) (by decide +kernel)) rfl) rfl (by decide +kernel) (by decide +kernel) (Or.inl ⟨8, by decide +kernel, by decide, rfl⟩) (by decide +kernel) (by decide +kernel) (fun H locs hI => ?_)
  refine rp_arrI hF hin (lv_at hl 0 rfl) hI 8 (n := 8) (by decide) (by decide) (Nat.le_of_ble_eq_true rfl) (Nat.le_of_ble_eq_true rfl) (Nat.le_of_ble_eq_true rfl) (w := (RX6, TX6, 9)) rfl 8 (index := 33) (pl := 2) (Nat.le_of_ble_eq_true rfl) (Nat.le_of_ble_eq_true rfl) (ra_tb_of (List.mem_of_getElem? (i := 259) (by decide +kernel)) rfl) rfl (by decide +kernel) (by decide +kernel) (Or.inl ⟨8, by decide +kernel, by decide, rfl⟩) (by decide +kernel) (by decide +kernel) (fun H locs hI => ?_)
  exact rp_ret hF hr hlocks hI rfl (by decide +kernel)
def rp_L9 (cA : Nat → ClassId) (N0 r : Nat) : List va_E := [.inr (9, [.ref (N0 + r + 1), .ref (N0 + r + 2), .ref (N0 + r + 3), .int 0, .int 0, .ref (N0 + r + 4), .ref (N0 + r + 5), .ref (N0 + r + 6), .ref (N0 + r + 7)]), .inl (cA 0, 8, .inl (fun _ => 0)), .inl (cA 0, 8, .inl (fun _ => 0)), .inl (cA 0, 8, .inl (fun _ => 0)), .inl (cA 0, 20, .inl (fun _ => 0)), .inl (cA 0, 20, .inl (fun _ => 0)), .inl (cA 0, 20, .inl (fun _ => 0)), .inl (cA 0, 20, .inl (fun _ => 0))]
theorem rp_X9_len {cA : Nat → ClassId} {N0 r : Nat} : ∀ L : List va_E, L = rp_L9 cA N0 r → L.length = 8 := fun L h => by rw [h]; rfl
set_option maxHeartbeats 4000000 in
theorem rp_X9 (l : Launch) (D : va_G) (cA : Nat → ClassId) (N0 r sk sv : Nat) : rp_M l yX9_init cX9_init 1 { frames := 1, cells := 7, slots := 104, locals := 12 } D cA N0 r sk sv (.inr (9, [.null, .null, .null, .int 0, .int 0, .null, .null, .null, .null])) (fun L => L = rp_L9 cA N0 r) 7 104 := by
  refine rp_start (by decide +kernel) (Nat.le_refl _) rfl ?_
  intro p e s m args below meth c ls hF hN hZ hin hr hlocks hI hsz hl
  refine rp_obj hF (idx := 3) (lv_at hl 0 rfl) hl.1 (ra_tb_of (List.mem_of_getElem? (i := 339) (by decide +kernel)) rfl) (by decide +kernel) (by decide +kernel) ⟨(Nat.le_of_ble_eq_true rfl), (Nat.le_of_ble_eq_true rfl)⟩ ?_
  refine rp_arrI hF hin (lv_at hl 0 rfl) hI 8 (n := 8) (by decide) (by decide) (Nat.le_of_ble_eq_true rfl) (Nat.le_of_ble_eq_true rfl) (Nat.le_of_ble_eq_true rfl) (w := (RX9, TX9, 9)) rfl 0 (index := 9) (pl := 2) (Nat.le_of_ble_eq_true rfl) (Nat.le_of_ble_eq_true rfl) (ra_tb_of (List.mem_of_getElem? (i := 340) (by decide +kernel)) rfl) rfl (by decide +kernel) (by decide +kernel) (Or.inl ⟨8, by decide +kernel, by decide, rfl⟩) (by decide +kernel) (by decide +kernel) (fun H locs hI => ?_)
  refine rp_arrI hF hin (lv_at hl 0 rfl) hI 8 (n := 8) (by decide) (by decide) (Nat.le_of_ble_eq_true rfl) (Nat.le_of_ble_eq_true rfl) (Nat.le_of_ble_eq_true rfl) (w := (RX9, TX9, 9)) rfl 1 (index := 15) (pl := 2) (Nat.le_of_ble_eq_true rfl) (Nat.le_of_ble_eq_true rfl) (ra_tb_of (List.mem_of_getElem? (i := 343) (by decide +kernel)) rfl) rfl (by decide +kernel) (by decide +kernel) (Or.inl ⟨8, by decide +kernel, by decide, rfl⟩) (by decide +kernel) (by decide +kernel) (fun H locs hI => ?_)
  refine rp_arrI hF hin (lv_at hl 0 rfl) hI 8 (n := 8) (by decide) (by decide) (Nat.le_of_ble_eq_true rfl) (Nat.le_of_ble_eq_true rfl) (Nat.le_of_ble_eq_true rfl) (w := (RX9, TX9, 9)) rfl 2 (index := 18) (pl := 2) (Nat.le_of_ble_eq_true rfl) (Nat.le_of_ble_eq_true rfl) (ra_tb_of (List.mem_of_getElem? (i := 346) (by decide +kernel)) rfl) rfl (by decide +kernel) (by decide +kernel) (Or.inl ⟨8, by decide +kernel, by decide, rfl⟩) (by decide +kernel) (by decide +kernel) (fun H locs hI => ?_)
  refine rp_arrI hF hin (lv_at hl 0 rfl) hI 20 (n := 20) (by decide) (by decide) (Nat.le_of_ble_eq_true rfl) (Nat.le_of_ble_eq_true rfl) (Nat.le_of_ble_eq_true rfl) (w := (RX9, TX9, 9)) rfl 5 (index := 21) (pl := 2) (Nat.le_of_ble_eq_true rfl) (Nat.le_of_ble_eq_true rfl) (ra_tb_of (List.mem_of_getElem? (i := 352) (by decide +kernel)) rfl) rfl (by decide +kernel) (by decide +kernel) (Or.inl ⟨20, by decide +kernel, by decide, rfl⟩) (by decide +kernel) (by decide +kernel) (fun H locs hI => ?_)
  refine rp_arrI hF hin (lv_at hl 0 rfl) hI 20 (n := 20) (by decide) (by decide) (Nat.le_of_ble_eq_true rfl) (Nat.le_of_ble_eq_true rfl) (Nat.le_of_ble_eq_true rfl) (w := (RX9, TX9, 9)) rfl 6 (index := 24) (pl := 2) (Nat.le_of_ble_eq_true rfl) (Nat.le_of_ble_eq_true rfl) (ra_tb_of (List.mem_of_getElem? (i := 353) (by decide +kernel)) rfl) rfl (by decide +kernel) (by decide +kernel) (Or.inl ⟨20, by decide +kernel, by decide, rfl⟩) (by decide +kernel) (by decide +kernel) (fun H locs hI => ?_)
  refine rp_arrI hF hin (lv_at hl 0 rfl) hI 20 (n := 20) (by decide) (by decide) (Nat.le_of_ble_eq_true rfl) (Nat.le_of_ble_eq_true rfl) (Nat.le_of_ble_eq_true rfl) (w := (RX9, TX9, 9)) rfl 7 (index := 27) (pl := 2) (Nat.le_of_ble_eq_true rfl) (Nat.le_of_ble_eq_true rfl) (ra_tb_of (List.mem_of_getElem? (i := 354) (by decide +kernel)) rfl) rfl (by decide +kernel) (by decide +kernel) (Or.inl ⟨20, by decide +kernel, by decide, rfl⟩) (by decide +kernel) (by decide +kernel) (fun H locs hI => ?_)
  refine rp_arrI hF hin (lv_at hl 0 rfl) hI 20 (n := 20) (by decide) (by decide) (Nat.le_of_ble_eq_true rfl) (Nat.le_of_ble_eq_true rfl) (Nat.le_of_ble_eq_true rfl) (w := (RX9, TX9, 9)) rfl 8 (index := 30) (pl := 2) (Nat.le_of_ble_eq_true rfl) (Nat.le_of_ble_eq_true rfl) (ra_tb_of (List.mem_of_getElem? (i := 355) (by decide +kernel)) rfl) rfl (by decide +kernel) (by decide +kernel) (Or.inl ⟨20, by decide +kernel, by decide, rfl⟩) (by decide +kernel) (by decide +kernel) (fun H locs hI => ?_)
  exact rp_ret hF hr hlocks hI rfl (by decide +kernel)
def rp_L1 (cA : Nat → ClassId) (N0 r : Nat) : List va_E := [.inr (1, [.int 0, .int (-1), .ref (N0 + r + 1), .ref (N0 + r + 2), .ref (N0 + r + 3), .ref (N0 + r + 4), .ref (N0 + r + 5)]), .inl (cA 0, 40, .inl (fun _ => 0)), .inl (cA 0, 40, .inl (fun _ => 0)), .inl (cA 0, 40, .inl (fun _ => 0)), .inl (cA 0, 40, .inl (fun _ => 0)), .inl (cA 1, 40, .inl (fun _ => 0))]
theorem rp_X1_len {cA : Nat → ClassId} {N0 r : Nat} : ∀ L : List va_E, L = rp_L1 cA N0 r → L.length = 6 := fun L h => by rw [h]; rfl
set_option maxHeartbeats 4000000 in
theorem rp_X1 (l : Launch) (D : va_G) (cA : Nat → ClassId) (N0 r sk sv : Nat) : rp_M l yX1_init cX1_init 1 { frames := 1, cells := 5, slots := 200, locals := 12 } D cA N0 r sk sv (.inr (1, [.int 0, .int 0, .null, .null, .null, .null, .null])) (fun L => L = rp_L1 cA N0 r) 5 200 := by
  refine rp_start (by decide +kernel) (Nat.le_refl _) rfl ?_
  intro p e s m args below meth c ls hF hN hZ hin hr hlocks hI hsz hl
  refine rp_obj hF (idx := 3) (lv_at hl 0 rfl) hl.1 (ra_tb_of (List.mem_of_getElem? (i := 380) (by decide +kernel)) rfl) (by decide +kernel) (by decide +kernel) ⟨(Nat.le_of_ble_eq_true rfl), (Nat.le_of_ble_eq_true rfl)⟩ ?_
  refine rp_int hF hin (lv_at hl 0 rfl) hI (n := (-1)) (w := (RX1, TX1, 7)) rfl 1 (index := 9) (pl := 1) (ty := .int) (Nat.le_of_ble_eq_true rfl) (Nat.le_of_ble_eq_true rfl) (ra_tb_of (List.mem_of_getElem? (i := 383) (by decide +kernel)) rfl) rfl (by decide +kernel) ⟨rfl, rfl⟩ (by decide +kernel) (Or.inl ⟨(-1), by decide +kernel, by decide, rfl⟩) (by decide +kernel) (fun H locs hI => ?_)
  refine rp_arrI hF hin (lv_at hl 0 rfl) hI 40 (n := 40) (by decide) (by decide) (Nat.le_of_ble_eq_true rfl) (Nat.le_of_ble_eq_true rfl) (Nat.le_of_ble_eq_true rfl) (w := (RX1, TX1, 7)) rfl 2 (index := 15) (pl := 2) (Nat.le_of_ble_eq_true rfl) (Nat.le_of_ble_eq_true rfl) (ra_tb_of (List.mem_of_getElem? (i := 385) (by decide +kernel)) rfl) rfl (by decide +kernel) (by decide +kernel) (Or.inl ⟨40, by decide +kernel, by decide, rfl⟩) (by decide +kernel) (by decide +kernel) (fun H locs hI => ?_)
  refine rp_arrI hF hin (lv_at hl 0 rfl) hI 40 (n := 40) (by decide) (by decide) (Nat.le_of_ble_eq_true rfl) (Nat.le_of_ble_eq_true rfl) (Nat.le_of_ble_eq_true rfl) (w := (RX1, TX1, 7)) rfl 3 (index := 19) (pl := 2) (Nat.le_of_ble_eq_true rfl) (Nat.le_of_ble_eq_true rfl) (ra_tb_of (List.mem_of_getElem? (i := 386) (by decide +kernel)) rfl) rfl (by decide +kernel) (by decide +kernel) (Or.inl ⟨40, by decide +kernel, by decide, rfl⟩) (by decide +kernel) (by decide +kernel) (fun H locs hI => ?_)
  refine rp_arrI hF hin (lv_at hl 0 rfl) hI 40 (n := 40) (by decide) (by decide) (Nat.le_of_ble_eq_true rfl) (Nat.le_of_ble_eq_true rfl) (Nat.le_of_ble_eq_true rfl) (w := (RX1, TX1, 7)) rfl 4 (index := 22) (pl := 2) (Nat.le_of_ble_eq_true rfl) (Nat.le_of_ble_eq_true rfl) (ra_tb_of (List.mem_of_getElem? (i := 387) (by decide +kernel)) rfl) rfl (by decide +kernel) (by decide +kernel) (Or.inl ⟨40, by decide +kernel, by decide, rfl⟩) (by decide +kernel) (by decide +kernel) (fun H locs hI => ?_)
  refine rp_arrI hF hin (lv_at hl 0 rfl) hI 40 (n := 40) (by decide) (by decide) (Nat.le_of_ble_eq_true rfl) (Nat.le_of_ble_eq_true rfl) (Nat.le_of_ble_eq_true rfl) (w := (RX1, TX1, 7)) rfl 5 (index := 25) (pl := 2) (Nat.le_of_ble_eq_true rfl) (Nat.le_of_ble_eq_true rfl) (ra_tb_of (List.mem_of_getElem? (i := 388) (by decide +kernel)) rfl) rfl (by decide +kernel) (by decide +kernel) (Or.inl ⟨40, by decide +kernel, by decide, rfl⟩) (by decide +kernel) (by decide +kernel) (fun H locs hI => ?_)
  refine rp_arrZ hF hin (lv_at hl 0 rfl) hI 40 (n := 40) (by decide) (by decide) (Nat.le_of_ble_eq_true rfl) (Nat.le_of_ble_eq_true rfl) (Nat.le_of_ble_eq_true rfl) (w := (RX1, TX1, 7)) rfl 6 (index := 28) (pl := 2) (Nat.le_of_ble_eq_true rfl) (Nat.le_of_ble_eq_true rfl) (ra_tb_of (List.mem_of_getElem? (i := 389) (by decide +kernel)) rfl) rfl (by decide +kernel) (by decide +kernel) (Or.inl ⟨40, by decide +kernel, by decide, rfl⟩) (by decide +kernel) (by decide +kernel) (fun H locs hI => ?_)
  exact rp_ret hF hr hlocks hI rfl (by decide +kernel)
def rp_L0 (cA : Nat → ClassId) (N0 r : Nat) : List va_E := [.inr (0, [.ref (N0 + r + 1), .ref (N0 + r + 2), .ref (N0 + r + 3), .ref (N0 + r + 4), .ref (N0 + r + 5), .ref (N0 + r + 6), .ref (N0 + r + 7), .ref (N0 + r + 8), .ref (N0 + r + 9), .int 0, .int 0, .int 0, .int 0, .int 0]), .inl (cA 0, 8, .inl (fun _ => 0)), .inl (cA 0, 8, .inl (fun _ => 0)), .inl (cA 0, 8, .inl (fun _ => 0)), .inl (cA 0, 8, .inl (fun _ => 0)), .inl (cA 0, 8, .inl (fun _ => 0)), .inl (cA 0, 8, .inl (fun _ => 0)), .inl (cA 0, 32, .inl (fun _ => 0)), .inl (cA 0, 8, .inl (fun _ => 0)), .inl (cA 0, 8, .inl (fun _ => 0))]
theorem rp_X0_len {cA : Nat → ClassId} {N0 r : Nat} : ∀ L : List va_E, L = rp_L0 cA N0 r → L.length = 10 := fun L h => by rw [h]; rfl
set_option maxHeartbeats 4000000 in
theorem rp_X0 (l : Launch) (D : va_G) (cA : Nat → ClassId) (N0 r sk sv : Nat) : rp_M l yX0_init cX0_init 1 { frames := 1, cells := 9, slots := 96, locals := 12 } D cA N0 r sk sv (.inr (0, [.null, .null, .null, .null, .null, .null, .null, .null, .null, .int 0, .int 0, .int 0, .int 0, .int 0])) (fun L => L = rp_L0 cA N0 r) 9 96 := by
  refine rp_start (by decide +kernel) (Nat.le_refl _) rfl ?_
  intro p e s m args below meth c ls hF hN hZ hin hr hlocks hI hsz hl
  refine rp_obj hF (idx := 3) (lv_at hl 0 rfl) hl.1 (ra_tb_of (List.mem_of_getElem? (i := 410) (by decide +kernel)) rfl) (by decide +kernel) (by decide +kernel) ⟨(Nat.le_of_ble_eq_true rfl), (Nat.le_of_ble_eq_true rfl)⟩ ?_
  refine rp_arrI hF hin (lv_at hl 0 rfl) hI 8 (n := 8) (by decide) (by decide) (Nat.le_of_ble_eq_true rfl) (Nat.le_of_ble_eq_true rfl) (Nat.le_of_ble_eq_true rfl) (w := (RX0, TX0, 14)) rfl 0 (index := 9) (pl := 2) (Nat.le_of_ble_eq_true rfl) (Nat.le_of_ble_eq_true rfl) (ra_tb_of (List.mem_of_getElem? (i := 411) (by decide +kernel)) rfl) rfl (by decide +kernel) (by decide +kernel) (Or.inl ⟨8, by decide +kernel, by decide, rfl⟩) (by decide +kernel) (by decide +kernel) (fun H locs hI => ?_)
  refine rp_arrI hF hin (lv_at hl 0 rfl) hI 8 (n := 8) (by decide) (by decide) (Nat.le_of_ble_eq_true rfl) (Nat.le_of_ble_eq_true rfl) (Nat.le_of_ble_eq_true rfl) (w := (RX0, TX0, 14)) rfl 1 (index := 15) (pl := 2) (Nat.le_of_ble_eq_true rfl) (Nat.le_of_ble_eq_true rfl) (ra_tb_of (List.mem_of_getElem? (i := 413) (by decide +kernel)) rfl) rfl (by decide +kernel) (by decide +kernel) (Or.inl ⟨8, by decide +kernel, by decide, rfl⟩) (by decide +kernel) (by decide +kernel) (fun H locs hI => ?_)
  refine rp_arrI hF hin (lv_at hl 0 rfl) hI 8 (n := 8) (by decide) (by decide) (Nat.le_of_ble_eq_true rfl) (Nat.le_of_ble_eq_true rfl) (Nat.le_of_ble_eq_true rfl) (w := (RX0, TX0, 14)) rfl 2 (index := 18) (pl := 2) (Nat.le_of_ble_eq_true rfl) (Nat.le_of_ble_eq_true rfl) (ra_tb_of (List.mem_of_getElem? (i := 415) (by decide +kernel)) rfl) rfl (by decide +kernel) (by decide +kernel) (Or.inl ⟨8, by decide +kernel, by decide, rfl⟩) (by decide +kernel) (by decide +kernel) (fun H locs hI => ?_)
  refine rp_arrI hF hin (lv_at hl 0 rfl) hI 8 (n := 8) (by decide) (by decide) (Nat.le_of_ble_eq_true rfl) (Nat.le_of_ble_eq_true rfl) (Nat.le_of_ble_eq_true rfl) (w := (RX0, TX0, 14)) rfl 3 (index := 21) (pl := 2) (Nat.le_of_ble_eq_true rfl) (Nat.le_of_ble_eq_true rfl) (ra_tb_of (List.mem_of_getElem? (i := 416) (by decide +kernel)) rfl) rfl (by decide +kernel) (by decide +kernel) (Or.inl ⟨8, by decide +kernel, by decide, rfl⟩) (by decide +kernel) (by decide +kernel) (fun H locs hI => ?_)
  refine rp_arrI hF hin (lv_at hl 0 rfl) hI 8 (n := 8) (by decide) (by decide) (Nat.le_of_ble_eq_true rfl) (Nat.le_of_ble_eq_true rfl) (Nat.le_of_ble_eq_true rfl) (w := (RX0, TX0, 14)) rfl 4 (index := 24) (pl := 2) (Nat.le_of_ble_eq_true rfl) (Nat.le_of_ble_eq_true rfl) (ra_tb_of (List.mem_of_getElem? (i := 417) (by decide +kernel)) rfl) rfl (by decide +kernel) (by decide +kernel) (Or.inl ⟨8, by decide +kernel, by decide, rfl⟩) (by decide +kernel) (by decide +kernel) (fun H locs hI => ?_)
  refine rp_arrI hF hin (lv_at hl 0 rfl) hI 8 (n := 8) (by decide) (by decide) (Nat.le_of_ble_eq_true rfl) (Nat.le_of_ble_eq_true rfl) (Nat.le_of_ble_eq_true rfl) (w := (RX0, TX0, 14)) rfl 5 (index := 27) (pl := 2) (Nat.le_of_ble_eq_true rfl) (Nat.le_of_ble_eq_true rfl) (ra_tb_of (List.mem_of_getElem? (i := 419) (by decide +kernel)) rfl) rfl (by decide +kernel) (by decide +kernel) (Or.inl ⟨8, by decide +kernel, by decide, rfl⟩) (by decide +kernel) (by decide +kernel) (fun H locs hI => ?_)
  refine rp_arrI hF hin (lv_at hl 0 rfl) hI 32 (n := 32) (by decide) (by decide) (Nat.le_of_ble_eq_true rfl) (Nat.le_of_ble_eq_true rfl) (Nat.le_of_ble_eq_true rfl) (w := (RX0, TX0, 14)) rfl 6 (index := 30) (pl := 2) (Nat.le_of_ble_eq_true rfl) (Nat.le_of_ble_eq_true rfl) (ra_tb_of (List.mem_of_getElem? (i := 421) (by decide +kernel)) rfl) rfl (by decide +kernel) (by decide +kernel) (Or.inl ⟨32, by decide +kernel, by decide, rfl⟩) (by decide +kernel) (by decide +kernel) (fun H locs hI => ?_)
  refine rp_arrI hF hin (lv_at hl 0 rfl) hI 8 (n := 8) (by decide) (by decide) (Nat.le_of_ble_eq_true rfl) (Nat.le_of_ble_eq_true rfl) (Nat.le_of_ble_eq_true rfl) (w := (RX0, TX0, 14)) rfl 7 (index := 33) (pl := 2) (Nat.le_of_ble_eq_true rfl) (Nat.le_of_ble_eq_true rfl) (ra_tb_of (List.mem_of_getElem? (i := 422) (by decide +kernel)) rfl) rfl (by decide +kernel) (by decide +kernel) (Or.inl ⟨8, by decide +kernel, by decide, rfl⟩) (by decide +kernel) (by decide +kernel) (fun H locs hI => ?_)
  refine rp_arrI hF hin (lv_at hl 0 rfl) hI 8 (n := 8) (by decide) (by decide) (Nat.le_of_ble_eq_true rfl) (Nat.le_of_ble_eq_true rfl) (Nat.le_of_ble_eq_true rfl) (w := (RX0, TX0, 14)) rfl 8 (index := 36) (pl := 2) (Nat.le_of_ble_eq_true rfl) (Nat.le_of_ble_eq_true rfl) (ra_tb_of (List.mem_of_getElem? (i := 424) (by decide +kernel)) rfl) rfl (by decide +kernel) (by decide +kernel) (Or.inl ⟨8, by decide +kernel, by decide, rfl⟩) (by decide +kernel) (by decide +kernel) (fun H locs hI => ?_)
  exact rp_ret hF hr hlocks hI rfl (by decide +kernel)
def rp_L5 (cA : Nat → ClassId) (N0 r : Nat) : List va_E := [.inr (5, [.ref (N0 + r + 1), .ref (N0 + r + 2), .ref (N0 + r + 3), .ref (N0 + r + 4), .long 0, .long 0]), .inl (cA 0, 320, .inl (fun _ => 0)), .inl (cA 0, 64, .inl (fun _ => 0)), .inl (cA 0, 8, .inl (fun _ => 0)), .inl (cA 0, 8, .inl (fun _ => 0))]
theorem rp_X5_len {cA : Nat → ClassId} {N0 r : Nat} : ∀ L : List va_E, L = rp_L5 cA N0 r → L.length = 5 := fun L h => by rw [h]; rfl
set_option maxHeartbeats 4000000 in
theorem rp_X5 (l : Launch) (D : va_G) (cA : Nat → ClassId) (N0 r sk sv : Nat) : rp_M l yX5_init cX5_init 1 { frames := 1, cells := 4, slots := 400, locals := 12 } D cA N0 r sk sv (.inr (5, [.null, .null, .null, .null, .long 0, .long 0])) (fun L => L = rp_L5 cA N0 r) 4 400 := by
  refine rp_start (by decide +kernel) (Nat.le_refl _) rfl ?_
  intro p e s m args below meth c ls hF hN hZ hin hr hlocks hI hsz hl
  refine rp_obj hF (idx := 3) (lv_at hl 0 rfl) hl.1 (ra_tb_of (List.mem_of_getElem? (i := 470) (by decide +kernel)) rfl) (by decide +kernel) (by decide +kernel) ⟨(Nat.le_of_ble_eq_true rfl), (Nat.le_of_ble_eq_true rfl)⟩ ?_
  refine rp_arrI hF hin (lv_at hl 0 rfl) hI 320 (n := 320) (by decide) (by decide) (Nat.le_of_ble_eq_true rfl) (Nat.le_of_ble_eq_true rfl) (Nat.le_of_ble_eq_true rfl) (w := (RX5, TX5, 6)) rfl 0 (index := 9) (pl := 3) (Nat.le_of_ble_eq_true rfl) (Nat.le_of_ble_eq_true rfl) (ra_tb_of (List.mem_of_getElem? (i := 471) (by decide +kernel)) rfl) rfl (by decide +kernel) (by decide +kernel) (Or.inr ⟨320, by decide +kernel, by decide, rfl⟩) (by decide +kernel) (by decide +kernel) (fun H locs hI => ?_)
  refine rp_arrI hF hin (lv_at hl 0 rfl) hI 64 (n := 64) (by decide) (by decide) (Nat.le_of_ble_eq_true rfl) (Nat.le_of_ble_eq_true rfl) (Nat.le_of_ble_eq_true rfl) (w := (RX5, TX5, 6)) rfl 1 (index := 15) (pl := 2) (Nat.le_of_ble_eq_true rfl) (Nat.le_of_ble_eq_true rfl) (ra_tb_of (List.mem_of_getElem? (i := 472) (by decide +kernel)) rfl) rfl (by decide +kernel) (by decide +kernel) (Or.inl ⟨64, by decide +kernel, by decide, rfl⟩) (by decide +kernel) (by decide +kernel) (fun H locs hI => ?_)
  refine rp_arrI hF hin (lv_at hl 0 rfl) hI 8 (n := 8) (by decide) (by decide) (Nat.le_of_ble_eq_true rfl) (Nat.le_of_ble_eq_true rfl) (Nat.le_of_ble_eq_true rfl) (w := (RX5, TX5, 6)) rfl 2 (index := 18) (pl := 2) (Nat.le_of_ble_eq_true rfl) (Nat.le_of_ble_eq_true rfl) (ra_tb_of (List.mem_of_getElem? (i := 473) (by decide +kernel)) rfl) rfl (by decide +kernel) (by decide +kernel) (Or.inl ⟨8, by decide +kernel, by decide, rfl⟩) (by decide +kernel) (by decide +kernel) (fun H locs hI => ?_)
  refine rp_arrI hF hin (lv_at hl 0 rfl) hI 8 (n := 8) (by decide) (by decide) (Nat.le_of_ble_eq_true rfl) (Nat.le_of_ble_eq_true rfl) (Nat.le_of_ble_eq_true rfl) (w := (RX5, TX5, 6)) rfl 3 (index := 21) (pl := 2) (Nat.le_of_ble_eq_true rfl) (Nat.le_of_ble_eq_true rfl) (ra_tb_of (List.mem_of_getElem? (i := 474) (by decide +kernel)) rfl) rfl (by decide +kernel) (by decide +kernel) (Or.inl ⟨8, by decide +kernel, by decide, rfl⟩) (by decide +kernel) (by decide +kernel) (fun H locs hI => ?_)
  exact rp_ret hF hr hlocks hI rfl (by decide +kernel)
def rp_L8 (cA : Nat → ClassId) (N0 r : Nat) : List va_E := [.inr (8, [.int 0, .ref (N0 + r + 1), .ref (N0 + r + 2), .long 0]), .inl (cA 0, 8, .inl (fun _ => 0)), .inl (cA 0, 8, .inl (fun _ => 0))]
theorem rp_X8_len {cA : Nat → ClassId} {N0 r : Nat} : ∀ L : List va_E, L = rp_L8 cA N0 r → L.length = 3 := fun L h => by rw [h]; rfl
set_option maxHeartbeats 4000000 in
theorem rp_X8 (l : Launch) (D : va_G) (cA : Nat → ClassId) (N0 r sk sv : Nat) : rp_M l yX8_init cX8_init 1 { frames := 1, cells := 2, slots := 16, locals := 12 } D cA N0 r sk sv (.inr (8, [.int 0, .null, .null, .long 0])) (fun L => L = rp_L8 cA N0 r) 2 16 := by
  refine rp_start (by decide +kernel) (Nat.le_refl _) rfl ?_
  intro p e s m args below meth c ls hF hN hZ hin hr hlocks hI hsz hl
  refine rp_obj hF (idx := 3) (lv_at hl 0 rfl) hl.1 (ra_tb_of (List.mem_of_getElem? (i := 496) (by decide +kernel)) rfl) (by decide +kernel) (by decide +kernel) ⟨(Nat.le_of_ble_eq_true rfl), (Nat.le_of_ble_eq_true rfl)⟩ ?_
  refine rp_arrI hF hin (lv_at hl 0 rfl) hI 8 (n := 8) (by decide) (by decide) (Nat.le_of_ble_eq_true rfl) (Nat.le_of_ble_eq_true rfl) (Nat.le_of_ble_eq_true rfl) (w := (RX8, TX8, 4)) rfl 1 (index := 9) (pl := 2) (Nat.le_of_ble_eq_true rfl) (Nat.le_of_ble_eq_true rfl) (ra_tb_of (List.mem_of_getElem? (i := 498) (by decide +kernel)) rfl) rfl (by decide +kernel) (by decide +kernel) (Or.inl ⟨8, by decide +kernel, by decide, rfl⟩) (by decide +kernel) (by decide +kernel) (fun H locs hI => ?_)
  refine rp_arrI hF hin (lv_at hl 0 rfl) hI 8 (n := 8) (by decide) (by decide) (Nat.le_of_ble_eq_true rfl) (Nat.le_of_ble_eq_true rfl) (Nat.le_of_ble_eq_true rfl) (w := (RX8, TX8, 4)) rfl 2 (index := 15) (pl := 2) (Nat.le_of_ble_eq_true rfl) (Nat.le_of_ble_eq_true rfl) (ra_tb_of (List.mem_of_getElem? (i := 500) (by decide +kernel)) rfl) rfl (by decide +kernel) (by decide +kernel) (Or.inl ⟨8, by decide +kernel, by decide, rfl⟩) (by decide +kernel) (by decide +kernel) (fun H locs hI => ?_)
  exact rp_ret hF hr hlocks hI rfl (by decide +kernel)
