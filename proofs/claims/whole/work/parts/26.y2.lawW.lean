-- ===== the law's frame (out of the kit's skeleton), then its loop on the machine =====
/-! THE CLAIM OUT OF ONE WALK OF THE LAW'S BODY. Your part is whole_start (and what it stands on); all else here is the same for every law, but numbers. -/
def R_law : String := "StickStringsLaw"
def lw_P (b : Addr) (xs : List Int32) (args : Array Value) (s : State) : Prop := args = #[.ref b] ∧ s.IntsAt b xs ∧ xs.length ≤ 3072 ∧ (Jvm.Cond.and given_1 narrow_1).before args s = true
def lw_Q (_ : Array Value) (s : State) (o : Outcome) (t : State) : Prop := o = .returned (some (.int 1)) ∧ Framed s o t [] 1142 13752
def lw_Z (below : List Frame) (a : Array Value) (s : State) : State → Prop := fun t => ∃ o, t.status = .running ∧ Ended t below o ∧ lw_Q a s o t
/-- the law's own end, with 1 on the stack, nothing written that was there before, its room as the claim has it -/
theorem lw_ret {p : Program} {l : Launch} {e : Env} {s : State} {m : MethodId} {below : List Frame} {meth : Method} {c : Code} {b : Nat} (hx : p.tables.exec = Jvm.exec) (hb : c.code = code) (hr : meth.sig.returnType = ret) (hlocks : meth.locks = false) {pc : Nat} {H : Heap} {ls : Array Slot} (hdg : decode code pc = .ok (.ireturn, 1)) : W p l e room_1 s m #[Value.ref b] below meth c H [] 1142 13752 (lw_Z below #[Value.ref b] s) (F0 m pc ls [.int 1]) := by
  intro T hT X
  obtain ⟨fs, hret, hrun, hended, hW, hframe⟩ := X.leave (v := some (.int 1)) (hlocks := hlocks) (fun h => by rw [hr] at h; cases h)
  have hmeth' : T.vm.method? m = some meth := X.method'
  refine ⟨T.setFrames fs, ?_, .returned (some (.int 1)), hrun, hended, rfl, ⟨_, rfl⟩, hW, hframe⟩
  jvm_step X.here [X.here.top, hx, hb, hdg, hmeth', hr, ret, narrow_b1]
  (try refine ⟨rfl, ?_⟩); (try refine ⟨rfl, ?_⟩)
  first | (intro acts; rw [hret _ acts rfl rfl rfl]) | rw [hret _ _ rfl rfl rfl]
  exact Steps.refl _
/-- what holds at the law's entry: the machine, the code, the tables' words (any of lw_tbl by 'hts w (by decide +kernel)'), the script of L ints xs at the cell b, what the Statement gives of the start (any of its parts by flat_of_before) -/
def lw_At (p : Program) (s : State) (m : MethodId) (meth : Method) (c : Code) (b L : Nat) (xs : Nat → Int32) : Prop :=
  p.tables.exec = Jvm.exec ∧ c.code = code ∧ meth.sig.returnType = ret ∧ c.maxLocals = 7 ∧ s.vm.findClass R_law = some m.cls ∧ (∀ w ∈ lw_tbl, w.before #[Value.ref b] s = true) ∧ va_X b L xs s s.heap ∧ b < s.heap.size ∧ meth.locks = false ∧ (Jvm.Cond.and given_1 narrow_1).before #[Value.ref b] s = true

/-- the law at the head of its loop, i ints read: the relation holds, the cells lie apart and are new -/
def rz_St (s : State) (b : Nat) (D : va_G) (cA : Nat → ClassId) (i : Nat) (ad : Nat → Nat) (σ : ra_S) (H : Heap) (locs : List Loc) (ls : Array Slot) : Prop :=
  rz_R σ ∧ (∀ i j, i < ra_nc → j < ra_nc → ad i = ad j → i = j) ∧ (∀ i, i < ra_nc → s.heap.size ≤ ad i) ∧ ad 999 = b ∧ va_P D vwCl (ra_w ra_lay ad cA σ) H ∧ va_S (fun q : Nat => s.heap.size ≤ q) s.heap H locs ∧ ∃ o5 o6, ra_ok ad 7 (rz_lo i o5 o6) ls
section RZL
variable {p : Program} {l : Launch} {e : Env} {s : State} {m : MethodId} {below : List Frame} {meth : Method} {c : Code}
/-- a case of the law that is walked by hand, from pc0 to the end of the loop's body -/
def rz_By (p : Program) (l : Launch) (e : Env) (s : State) (m : MethodId) (below : List Frame) (meth : Method) (c : Code) (b L : Nat) (D : va_G) (cA : Nat → ClassId) (pc0 dc ds : Nat) : Prop :=
  ∀ (Q : State → Prop) (i : Nat) (ad : Nat → Nat) (σ : ra_S) (H : Heap) (locs : List Loc) (ls : Array Slot) (cells slots : Nat), i + 6 ≤ L → rz_St s b D cA i ad σ H locs ls → cells + dc ≤ 1142 → slots + ds ≤ 13752 →
    (∀ (ad' : Nat → Nat) (σ' : ra_S) (H' : Heap) (locs' : List Loc) (ls' : Array Slot), rz_St s b D cA i ad' σ' H' locs' ls' → W p l e room_1 s m #[Value.ref b] below meth c H' locs' (cells + dc) (slots + ds) Q (F0 m 1734 ls' [])) →
    W p l e room_1 s m #[Value.ref b] below meth c H locs cells slots Q (F0 m pc0 ls [])
theorem rz_Fx {b L : Nat} {xs : Nat → Int32} (C0 : lw_At p s m meth c b L xs) : ra_Fx p s m #[Value.ref b] c ra_m253 := by
  obtain ⟨hx, hb, hr, hml, hown, hts, -⟩ := C0
  exact ⟨hx, hb, hml, hown, fun w hw => hts w (List.mem_filter.mp hw).1, rz_mok_law⟩
/-- from the head of the loop (or any place) to a stop, by a run of the reflected machine -/
theorem rz_go {b L : Nat} {xs : Nat → Int32} (C0 : lw_At p s m meth c b L xs) {D : va_G} {cA : Nat → ClassId} (hK : va_K D vwCl (ra_ty cA) s) (hN : ∀ w ∈ ra_nest, va_Nw w s) {Q : State → Prop} {i i' : Nat} {ad : Nat → Nat} {σ σ' : ra_S} {H : Heap} {locs : List Loc} {ls : Array Slot} {cells slots : Nat} (hc : cells ≤ 1142 ∧ slots ≤ 13752)
    (hSt : rz_St s b D cA i ad σ H locs ls) {pc stop : Nat} (hR' : rz_R σ') (hD : ∀ o5 o6, ra_D (ra_lay, some (L, xs), stop, ra_m253) pc (rz_lo i o5 o6) [] σ = some (.inr (rz_lo i' o5 o6, []), σ'))
    (kk : ∀ (H' : Heap) (locs' : List Loc) (ls' : Array Slot), rz_St s b D cA i' ad σ' H' locs' ls' → W p l e room_1 s m #[Value.ref b] below meth c H' locs' cells slots Q (F0 m stop ls' [])) :
    W p l e room_1 s m #[Value.ref b] below meth c H locs cells slots Q (F0 m pc ls []) := by
  obtain ⟨hR, hinj, hnew, h999, hP, hS, o5, o6, hok⟩ := hSt
  obtain ⟨hx, hb, hr, hml, hown, hts, hX, hbl, hlocks, hgv⟩ := id C0
  obtain ⟨n, hn⟩ := ra_D_some.mp (hD o5 o6)
  refine ra_walk (lay := ra_lay) (κ := (ra_lay, some (L, xs), stop, ra_m253)) (A0 := fun q : Nat => s.heap.size ≤ q) (H0 := s.heap) hinj (fun q hq => by obtain ⟨k, hk, rfl⟩ := hq; exact hnew k hk) rfl (fun _ _ h => h) (rz_Fx C0) hK hN ⟨Nat.le_of_ble_eq_true rfl, Nat.le_of_ble_eq_true rfl⟩ hc (fun ys hy => ?_) _ σ' (fun v hv => ?_) (fun lo' st' hv => ?_) n (fun k _ => ra_met (fun _ _ h => h) hinj k) pc _ [] σ H locs ls hn hP hS hok
  · cases hy
    rw [h999]
    exact ⟨hX, hbl, Nat.not_le.mpr hbl⟩
  · cases hv
  · cases hv
    intro H' locs' ls' hP' hS' hok'
    exact kk H' locs' ls' ⟨hR', hinj, hnew, h999, hP', hS', o5, o6, hok'⟩
theorem rz_leave {b L : Nat} {xs : Nat → Int32} (hL : L ≤ 3072) (C0 : lw_At p s m meth c b L xs) {D : va_G} {cA : Nat → ClassId} (hK : va_K D vwCl (ra_ty cA) s) (hN : ∀ w ∈ ra_nest, va_Nw w s) {i : Nat} {ad : Nat → Nat} {σ : ra_S} {H : Heap} {locs : List Loc} {ls : Array Slot} {cells slots : Nat} (hSt : rz_St s b D cA i ad σ H locs ls) (hi : i ≤ 3078) (hl : ¬ i + 6 ≤ L) (h1 : cells ≤ 1142) (h2 : slots ≤ 13752) :
    W p l e room_1 s m #[Value.ref b] below meth c H locs cells slots (lw_Z below #[Value.ref b] s) (F0 m 23 ls []) := by
  obtain ⟨hR, hinj, hnew, h999, hP, hS, o5, o6, hok⟩ := hSt
  obtain ⟨hx, hb, hr, hml, hown, hts, hX, hbl, hlocks, hgv⟩ := id C0
  obtain ⟨k, hk⟩ := ra_D_some.mp (rz_exit L xs hL (i := i) hl (by omega) o5 o6 σ)
  refine ra_walk (lay := ra_lay) (κ := (ra_lay, some (L, xs), 1734, ra_m253)) (A0 := fun q : Nat => s.heap.size ≤ q) (H0 := s.heap) hinj (fun q hq => by obtain ⟨k, hk, rfl⟩ := hq; exact hnew k hk) rfl (fun _ _ h => h) (rz_Fx C0) hK hN ⟨Nat.le_of_ble_eq_true rfl, Nat.le_of_ble_eq_true rfl⟩ ⟨show cells ≤ 1142 by omega, show slots ≤ 13752 by omega⟩ (fun ys hy => ?_) _ σ (fun v hv => ?_) (fun lo' st' hv => ?_) k (fun k _ => ra_met (fun _ _ h => h) hinj k) 23 _ [] σ H locs ls hk hP hS hok
  · cases hy
    rw [h999]
    exact ⟨hX, hbl, Nat.not_le.mpr hbl⟩
  · cases hv
    intro i' H' locs' pc' ls' hP' hS' hd hri
    obtain ⟨rfl, -⟩ := hri
    refine va_forget (fun q hq => hS'.2.2 q hq) ?_
    refine W.widen (k := 1142) (n := 13752) (by omega) (by omega) ?_
    exact lw_ret hx hb hr hlocks hd
  · cases hv
theorem rz_loop {b L : Nat} {xs : Nat → Int32} (hL : L ≤ 3072) (C0 : lw_At p s m meth c b L xs) (Hop : ∀ j, rz_op j) {D : va_G} {cA : Nat → ClassId} (hK : va_K D vwCl (ra_ty cA) s) (hN : ∀ w ∈ ra_nest, va_Nw w s) {dc ds : Nat} (H1 : rz_By p l e s m below meth c b L D cA 273 0 0) (H4 : rz_By p l e s m below meth c b L D cA 360 dc ds) :
    ∀ (n i : Nat) (ad : Nat → Nat) (σ : ra_S) (H : Heap) (locs : List Loc) (ls : Array Slot) (cells slots : Nat), rz_St s b D cA i ad σ H locs ls → i ≤ 3078 → L < i + 6 * n → cells + dc * n ≤ 1142 → slots + ds * n ≤ 13752 →
      W p l e room_1 s m #[Value.ref b] below meth c H locs cells slots (lw_Z below #[Value.ref b] s) (F0 m 23 ls []) := by
  intro n
  induction n with
  | zero =>
    intro i ad σ H locs ls cells slots hSt hi hn h1 h2
    exact rz_leave hL C0 hK hN hSt hi (by omega) (by omega) (by omega)
  | succ n ih =>
    intro i ad σ H locs ls cells slots hSt hi hn h1 h2
    by_cases hl : i + 6 ≤ L
    · have e1 : dc * (n + 1) = dc * n + dc := by rw [Nat.mul_succ]
      have e2 : ds * (n + 1) = ds * n + ds := by rw [Nat.mul_succ]
      have nxt : ∀ (ad' : Nat → Nat) (σ' : ra_S) (H' : Heap) (locs' : List Loc) (ls' : Array Slot) (cells' slots' : Nat), rz_St s b D cA i ad' σ' H' locs' ls' → cells' + dc * n ≤ 1142 → slots' + ds * n ≤ 13752 → W p l e room_1 s m #[Value.ref b] below meth c H' locs' cells' slots' (lw_Z below #[Value.ref b] s) (F0 m 1734 ls' []) := by
        intro ad' σ' H' locs' ls' cells' slots' hSt' g1 g2
        obtain ⟨hR', hinj, hnew, h999, hP, hS, o5, o6, hok⟩ := hSt'
        refine ra_walk (lay := ra_lay) (κ := (ra_lay, none, 23, ra_m253)) (A0 := fun q : Nat => s.heap.size ≤ q) (H0 := s.heap) hinj (fun q hq => by obtain ⟨k, hk, rfl⟩ := hq; exact hnew k hk) rfl (fun _ _ h => h) (rz_Fx C0) hK hN ⟨Nat.le_of_ble_eq_true rfl, Nat.le_of_ble_eq_true rfl⟩ ⟨show cells' ≤ 1142 by omega, show slots' ≤ 13752 by omega⟩ (fun ys hy => by cases hy) _ σ' (fun v hv => by cases hv) (fun lo' st' hv => ?_) 3 (fun k _ => ra_met (fun _ _ h => h) hinj k) 1734 _ [] σ' H' locs' ls' (rz_inc i o5 o6 σ') hP hS hok
        cases hv
        intro H2 locs2 ls2 hP2 hS2 hok2
        exact ih (i + 6) ad' σ' H2 locs2 ls2 cells' slots' ⟨hR', hinj, hnew, h999, hP2, hS2, o5, o6, hok2⟩ (by omega) (by omega) g1 g2
      by_cases q1 : (xs i &&& (63 : Int32)) = 1
      · refine rz_go C0 hK hN ⟨by omega, by omega⟩ hSt (stop := 273) hSt.1 (fun o5 o6 => rz_turn1 L xs hL hl o5 o6 σ q1) (fun H' locs' ls' hSt' => ?_)
        exact H1 _ i ad σ H' locs' ls' cells slots hl hSt' (by omega) (by omega) (fun ad2 σ2 H2 locs2 ls2 hSt2 => nxt ad2 σ2 H2 locs2 ls2 _ _ hSt2 (by omega) (by omega))
      · by_cases q4 : (xs i &&& (63 : Int32)) = 4
        · refine rz_go C0 hK hN ⟨by omega, by omega⟩ hSt (stop := 360) hSt.1 (fun o5 o6 => rz_turn4 L xs hL hl o5 o6 σ q4) (fun H' locs' ls' hSt' => ?_)
          exact H4 _ i ad σ H' locs' ls' cells slots hl hSt' (by omega) (by omega) (fun ad2 σ2 H2 locs2 ls2 hSt2 => nxt ad2 σ2 H2 locs2 ls2 _ _ hSt2 (by omega) (by omega))
        · have hD2 : ∃ σ2, rz_R σ2 ∧ ∀ o5 o6, ra_D (ra_lay, some (L, xs), 1734, ra_m253) 23 (rz_lo i o5 o6) [] σ = some (.inr (rz_lo i o5 o6, []), σ2) := rz_turnU L xs hL hl σ hSt.1 Hop q1 q4
          obtain ⟨σ2, hR2, hD⟩ := hD2
          exact rz_go C0 hK hN ⟨by omega, by omega⟩ hSt (stop := 1734) hR2 hD (fun H' locs' ls' hSt' => nxt ad σ2 H' locs' ls' _ _ hSt' (by omega) (by omega))
    · exact rz_leave hL C0 hK hN hSt hi hl (by omega) (by omega)
end RZL
