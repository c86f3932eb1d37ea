-- ===== the reflected machine's runs are the machine's =====
def ra_A (ad : Nat → Nat) : Nat → Prop := fun q => ∃ i, i < ra_nc ∧ q = ad i
def ra_ty (cA : Nat → ClassId) : List (ClassId × FieldType) := [(cA 0, .int), (cA 1, .boolean), (cA 2, .long)]
def ra_B (lay : Nat → Option ra_H) (D : va_G) (ad : Nat → Nat) (cA : Nat → ClassId) (σ : ra_S) (U : State) : Prop := va_P D vwCl (ra_w lay ad cA σ) U.heap ∧ va_K D vwCl (ra_ty cA) U ∧ ∀ w ∈ ra_nest, va_Nw w U
def ra_Q (lay : Nat → Option ra_H) (D : va_G) (ad : Nat → Nat) (cA : Nat → ClassId) (v : Option Value) (σ : ra_S) : Array Value → State → Outcome → State → Prop := fun _ st oc t => (oc = .returned (v.map (ra_cv ad)) ∧ va_P D vwCl (ra_w lay ad cA σ) t.heap) ∧ va_F (ra_A ad) st t
def ra_rm (M : ra_M) : Room := { frames := M.2.2.2.2.2.1.1, cells := 0, slots := 0, locals := M.2.2.2.2.2.1.2 }
def ra_ws (M : ra_M) : List Cond := Cond.code M.2.1 M.2.2.1 M.2.2.2.1.1 M.2.2.2.1.2 :: ra_tb
/-- a run of a method, as a contract -/
def ra_CT (l : Launch) (lay : Nat → Option ra_H) (D : va_G) (ad : Nat → Nat) (cA : Nat → ClassId) (n : Nat) : Prop := ∀ (ν : Nat) (vs : List Value) (σ : ra_S) (v : Option Value) (σ' : ra_S), (vs.map fun v => v.category).sum ≤ (ra_mt ν).2.2.2.1.1 →
  ra_rn n (lay, none, 99999, ra_mt ν) 0 (ra_lo0 (ra_mt ν).2.2.2.1.1 vs) [] σ = some (.inl v, σ') →
  Met l (ra_mt ν).2.1 (ra_ws (ra_mt ν)) (ra_rm (ra_mt ν)) (va_Pc (vs.map (ra_cv ad)) (ra_B lay D ad cA σ)) (ra_Q lay D ad cA v σ') 0 0 (ra_A ad)
/-- an instruction that returns v -/
def ra_ri (i : Instr) (v : Option Value) (rt : Option FieldType) : Prop := match v with
  | none => i = .return_ ∧ rt = none
  | some (.int z) => i = .ireturn ∧ (rt = some .int ∨ rt = some .boolean ∧ (z = 0 ∨ z = 1))
  | some (.long _) => i = .lreturn ∧ rt = some .long
  | _ => False
theorem ra_ac1 : Cond.native arraycopyName ∈ ra_tb := ra_isAt_ok (p := 1076) (by decide +kernel)
theorem ra_ac2 : Cond.static arraycopyName ∈ ra_tb := ra_isAt_ok (p := 1075) (by decide +kernel)
theorem ra_ac3 : Cond.initialized "java/lang/System" ∈ ra_tb := ra_isAt_ok (p := 128) (by decide +kernel)
theorem ra_good {M : ra_M} (h : ra_cok M) : GoodIn ra_tb (ra_ws M) := by
  intro w hw
  rcases List.mem_cons.mp hw with rfl | hw
  · exact ⟨h.2.1, good_of_word (List.mem_filter.mp h.2.1).2⟩
  · exact ⟨hw, good_of_word (List.mem_filter.mp hw).2⟩
theorem ra_nest_warm {s U : State} (hW : s.WarmedH U.vm) (h : ∀ w ∈ ra_nest, va_Nw w s) : ∀ w ∈ ra_nest, va_Nw w U := by
  intro w hw
  have h1 := h w hw
  unfold ra_nest at hw
  simp only [List.mem_cons, List.not_mem_nil, or_false] at hw
  rcases hw with rfl | rfl | rfl | rfl | rfl | rfl
  all_goals first | exact va_Nw.warmM hW h1 | exact va_Nw.warmF hW h1
theorem ra_blind {lay : Nat → Option ra_H} {D : va_G} {ad : Nat → Nat} {cA : Nat → ClassId} {σ : ra_S} {av : List Value} : FrameBlind (va_Pc av (ra_B lay D ad cA σ)) := by
  intro a U g mk q
  obtain ⟨q0, qP, qK, qN⟩ := q
  refine ⟨q0, qP, va_K.moved (u := U) (U := U.calling g mk a) (Vm.Alike.refl U.vm) qK, fun w hw => ?_⟩
  have h1 := qN w hw
  unfold ra_nest at hw
  simp only [List.mem_cons, List.not_mem_nil, or_false] at hw
  rcases hw with rfl | rfl | rfl | rfl | rfl | rfl
  all_goals exact va_Nw.same (u := U) (U := U.calling g mk a) rfl rfl h1
theorem ra_pop_spec : ∀ (n : Nat) (as st as' r : List Value), ra_pop n as st = some (as', r) → as.reverse ++ st = as'.reverse ++ r ∧ as'.length = as.length + n
  | 0, as, st, as', r, h => by cases h; exact ⟨rfl, rfl⟩
  | n + 1, as, [], as', r, h => by cases h
  | n + 1, as, v :: st, as', r, h => by
    obtain ⟨h1, h2⟩ := ra_pop_spec n (v :: as) st as' r h
    refine ⟨?_, ?_⟩
    · rw [← h1]; simp
    · rw [h2]; simp; omega
section RAG
variable {p : Program} {l : Launch} {e : Env} {R : Room} {s : State} {m : MethodId} {args : Array Value} {below : List Frame} {meth : Method} {c : Code} {H : Heap} {locs : List Loc} {cells slots : Nat} {Q : State → Prop}
theorem ra_ret_W {lay : Nat → Option ra_H} {D : va_G} {ad : Nat → Nat} {cA : Nat → ClassId} {σ1 : ra_S} {v : Option Value} {pc : Nat} {ls : Array Slot} {st0 rest : List Value} {a : Array Value} {A0 : Nat → Prop} {H0 : Heap} (hr : va_Run p l e R s m args below meth c H locs cells slots 0 0 (F0 m pc ls st0) rest (ra_Q lay D ad cA v σ1 a) (ra_A ad)) (hS : va_S A0 H0 H locs) (hA : ∀ q, ra_A ad q → A0 q)
    (kk : ∀ (H1 : Heap) (locs1 : List Loc), va_P D vwCl (ra_w lay ad cA σ1) H1 → va_S A0 H0 H1 locs1 → W p l e R s m args below meth c H1 locs1 cells slots Q (F0 m (pc + 3) ls ((v.map (ra_cv ad)).toList ++ rest))) : W p l e R s m args below meth c H locs cells slots Q (F0 m pc ls st0) := by
  intro T hT X
  obtain ⟨v', st₀, t, T', L, h0, X', hL, e1, e2, ⟨⟨hv, hP⟩, hz, hk⟩, st⟩ := hr T hT X
  have hv := Outcome.returned.inj hv
  subst hv
  rw [h0] at hz hk
  obtain ⟨t2, a1, b1⟩ := kk T'.heap (locs ++ L) (by rw [e1]; exact hP)
    ⟨Nat.le_trans hS.1 (by rw [e1]; exact hz), fun q h1 h2 => by rw [e1, hk q (Nat.lt_of_lt_of_le h1 hS.1) (fun z => h2 (hA q z))]; exact hS.2.1 q h1 h2, fun q hq => by
      rcases List.mem_append.mp hq with h | h
      · exact hS.2.2 q h
      · exact hA _ (hL q h)⟩ T' rfl X'
  exact ⟨t2, st t2 a1, b1⟩
/-- a call of a method of the table -/
theorem ra_inv_W {lay : Nat → Option ra_H} {D : va_G} {ad : Nat → Nat} {cA : Nat → ClassId} {A0 : Nat → Prop} (hA0 : ∀ q, ra_A ad q → A0 q) {κ : ra_K} (hκ : κ.1 = lay) {n : Nat} {H0 : Heap} (hCT : ra_CT l lay D ad cA n) {ν : Nat} {x : Option Value ⊕ (ra_L × List Value)} {σ' : ra_S}
    {pc : Nat} {lo : ra_L} {r as : List Value} {σ : ra_S} (h : ra_inv (ra_rn n) κ pc lo r σ ν as = some (x, σ')) {ls : Array Slot} {st0 : List Value} (hS : va_S A0 H0 H locs)
    (hrun : ∀ (v : Option Value) (σ1 : ra_S), Met l (ra_mt ν).2.1 (ra_ws (ra_mt ν)) (ra_rm (ra_mt ν)) (va_Pc (as.map (ra_cv ad)) (ra_B lay D ad cA σ)) (ra_Q lay D ad cA v σ1) 0 0 (ra_A ad) → va_Run p l e R s m args below meth c H locs cells slots 0 0 (F0 m pc ls st0) (r.map (ra_cv ad)) (ra_Q lay D ad cA v σ1 (as.map (ra_cv ad)).toArray) (ra_A ad))
    (go : ∀ (st : List Value) (σ1 : ra_S) (H1 : Heap) (locs1 : List Loc), ra_rn n κ (pc + 3) lo st σ1 = some (x, σ') → va_P D vwCl (ra_w lay ad cA σ1) H1 → va_S A0 H0 H1 locs1 → W p l e R s m args below meth c H1 locs1 cells slots Q (F0 m (pc + 3) ls (st.map (ra_cv ad)))) : W p l e R s m args below meth c H locs cells slots Q (F0 m pc ls st0) := by
  unfold ra_inv at h
  rw [hκ] at h
  obtain ⟨hc, h⟩ := ra_gd_some h
  simp only [Bool.and_eq_true, Nat.ble_eq] at hc
  have key : ∀ (v : Option Value) (σ1 : ra_S), ra_rn n (lay, none, 99999, ra_mt ν) 0 (ra_lo0 (ra_mt ν).2.2.2.1.1 as) [] σ = some (.inl v, σ1) → ra_rn n κ (pc + 3) lo (v.toList ++ r) σ1 = some (x, σ') → W p l e R s m args below meth c H locs cells slots Q (F0 m pc ls st0) := by
    intro v σ1 h1 h2
    refine ra_ret_W (hrun v σ1 (hCT ν as σ v σ1 hc.2 h1)) hS hA0 (fun H1 locs1 hP1 hS1 => ?_)
    have := go (v.toList ++ r) σ1 H1 locs1 h2 hP1 hS1
    cases v with
    | none => exact this
    | some v => exact this
  split at h
  · cases hz : ra_rn n (lay, none, 99999, ra_mt ν) 0 (ra_lo0 (ra_mt ν).2.2.2.1.1 as) [] σ with
    | none => rw [hz] at h; cases h
    | some z =>
      rw [hz] at h
      have h : ra_ki _ z = some (x, σ') := h
      unfold ra_ki at h
      split at h
      · exact key _ _ hz h
      · cases h
  · cases hz : ra_rn n (lay, none, 99999, ra_mt ν) 0 (ra_lo0 (ra_mt ν).2.2.2.1.1 as) [] σ with
    | none => rw [hz] at h; cases h
    | some z =>
      rw [hz] at h
      have h : ra_ki _ z = some (x, σ') := h
      unfold ra_ki at h
      split at h
      · exact key _ _ hz h
      · cases h
  · cases hz : ra_rn n (lay, none, 99999, ra_mt ν) 0 (ra_lo0 (ra_mt ν).2.2.2.1.1 as) [] σ with
    | none => rw [hz] at h; cases h
    | some z =>
      rw [hz] at h
      have h : ra_kl _ z = some (x, σ') := h
      unfold ra_kl at h
      split at h
      · exact key _ _ hz h
      · cases h
  · cases hz : ra_rn n (lay, none, 99999, ra_mt ν) 0 (ra_lo0 (ra_mt ν).2.2.2.1.1 as) [] σ with
    | none => rw [hz] at h; cases h
    | some z =>
      rw [hz] at h
      have h : ra_kv _ z = some (x, σ') := h
      unfold ra_kv at h
      split at h
      · exact key _ _ hz h
      · cases h
  · cases h
set_option maxHeartbeats 8000000 in
set_option maxRecDepth 100000 in
/-- THE WALK: a run of the reflected machine is a walk of the frame -/
theorem ra_walk {lay : Nat → Option ra_H} {D : va_G} {ad : Nat → Nat} {cA : Nat → ClassId} (hinj : ∀ i j, i < ra_nc → j < ra_nc → ad i = ad j → i = j) {A0 : Nat → Prop} (hA0 : ∀ q, ra_A ad q → A0 q) {H0 : Heap} {κ : ra_K} (hκ : κ.1 = lay) (hlay : ∀ i h, lay i = some h → ra_lay i = some h) (hF : ra_Fx p s m args c κ.2.2.2)
    (hK : va_K D vwCl (ra_ty cA) s) (hN : ∀ w ∈ ra_nest, va_Nw w s) (hR : κ.2.2.2.2.2.2.2.2.1.1 ≤ R.frames ∧ κ.2.2.2.2.2.2.2.2.1.2 ≤ R.locals) (hcs : cells ≤ R.cells ∧ slots ≤ R.slots)
    (hscr : ∀ xs, κ.2.1 = some xs → va_X (ad 999) xs.1 xs.2 s H0 ∧ ad 999 < H0.size ∧ ¬ A0 (ad 999)) (x : Option Value ⊕ (ra_L × List Value)) (σ' : ra_S)
    (hret : ∀ v, x = .inl v → ∀ (i : Instr) (H' : Heap) (locs' : List Loc) (pc' : Nat) (ls' : Array Slot), va_P D vwCl (ra_w lay ad cA σ') H' → va_S A0 H0 H' locs' → decode κ.2.2.2.2.2.1 pc' = .ok (i, 1) → ra_ri i v κ.2.2.2.2.2.2.1.2 → W p l e R s m args below meth c H' locs' cells slots Q (F0 m pc' ls' (v.map (ra_cv ad)).toList))
    (hstop : ∀ lo' st', x = .inr (lo', st') → ∀ (H' : Heap) (locs' : List Loc) (ls' : Array Slot), va_P D vwCl (ra_w lay ad cA σ') H' → va_S A0 H0 H' locs' → ra_ok ad κ.2.2.2.2.2.2.1.1 lo' ls' → W p l e R s m args below meth c H' locs' cells slots Q (F0 m κ.2.2.1 ls' (st'.map (ra_cv ad)))) :
    ∀ (n : Nat), (∀ k, k < n → ra_CT l lay D ad cA k) → ∀ (pc : Nat) (lo : ra_L) (st : List Value) (σ : ra_S) (H : Heap) (locs : List Loc) (ls : Array Slot), ra_rn n κ pc lo st σ = some (x, σ') → va_P D vwCl (ra_w lay ad cA σ) H → va_S A0 H0 H locs → ra_ok ad κ.2.2.2.2.2.2.1.1 lo ls → W p l e R s m args below meth c H locs cells slots Q (F0 m pc ls (st.map (ra_cv ad))) := by
  intro n
  induction n with
  | zero => intro _ pc lo st σ H locs ls h; cases h
  | succ n ih =>
    intro hCT pc lo st σ H locs ls h hP hS hl
    have go := ih (fun k hk => hCT k (Nat.lt_succ_of_lt hk))
    have hCn := hCT n (Nat.lt_succ_self n)
    have hF' := hF
    obtain ⟨hx, hb, hml, hown, hts, hM⟩ := hF
    have hlt : ∀ i h, lay i = some h → i < ra_nc := fun i h hi => ra_lay_lt (hlay i h hi)
    have hDw : ∀ σ : ra_S, va_D A0 (ra_w lay ad cA σ) := fun σ => ra_w_D hinj (fun i hi => hA0 _ ⟨i, hi, rfl⟩)
    replace h : ra_step (ra_rn n) κ pc lo st σ = some (x, σ') := h
    unfold ra_step at h
    rw [hκ] at h
    cases hbq : Nat.beq pc κ.2.2.1 with
    | true =>
      rw [hbq] at h
      have hpc := Nat.eq_of_beq_eq_true hbq
      subst hpc
      cases h
      exact hstop _ _ rfl _ _ _ hP hS hl
    | false =>
      rw [hbq] at h
      dsimp only at h
      cases hf : κ.2.2.2.2.2.2.2.2.2 pc with
      | none => rw [hf] at h; cases h
      | some z =>
        rw [hf] at h
        have hE := hM.2.2.2.2 pc z hf
        have hE' := hE
        obtain ⟨i, len, a, b, xi, xj⟩ := z
        unfold ra_eok at hE
        simp only [Bool.and_eq_true, decide_eq_true_eq] at hE
        obtain ⟨hd, he⟩ := hE
        cases i <;> dsimp only at h he hd
        all_goals (try simp only [Bool.and_eq_true, decide_eq_true_eq] at he)
        case goto off => exact lv_goto hx hb (by rw [← he.1]; exact hd) he.2 (go _ _ _ _ _ _ _ h hP hS hl)
        case if_icmp cnd off =>
          obtain ⟨rfl, he⟩ := he
          split at h
          · cases cnd <;> dsimp only [ra_br] at h
            · exact lv_icmp_eq hx hb hd he (fun hc => go _ _ _ _ _ _ _ (by rw [if_pos hc] at h; exact h) hP hS hl) (fun hc => go _ _ _ _ _ _ _ (by rw [if_neg hc] at h; exact h) hP hS hl)
            · exact lv_icmp_ne hx hb hd he (fun hc => go _ _ _ _ _ _ _ (by rw [if_neg hc] at h; exact h) hP hS hl) (fun hc => go _ _ _ _ _ _ _ (by rw [if_pos hc] at h; exact h) hP hS hl)
            · exact lv_icmp_lt hx hb hd he (fun hc => go _ _ _ _ _ _ _ (by rw [if_pos hc] at h; exact h) hP hS hl) (fun hc => go _ _ _ _ _ _ _ (by rw [if_neg hc] at h; exact h) hP hS hl)
            · exact lv_icmp_ge hx hb hd he (fun hc => go _ _ _ _ _ _ _ (by rw [if_neg (Int32.not_lt.mpr hc)] at h; exact h) hP hS hl) (fun hc => go _ _ _ _ _ _ _ (by rw [if_pos (Int32.not_le.mp hc)] at h; exact h) hP hS hl)
            · exact lv_icmp_gt hx hb hd he (fun hc => go _ _ _ _ _ _ _ (by rw [if_pos hc] at h; exact h) hP hS hl) (fun hc => go _ _ _ _ _ _ _ (by rw [if_neg hc] at h; exact h) hP hS hl)
            · exact lv_icmp_le hx hb hd he (fun hc => go _ _ _ _ _ _ _ (by rw [if_neg (Int32.not_lt.mpr hc)] at h; exact h) hP hS hl) (fun hc => go _ _ _ _ _ _ _ (by rw [if_pos (Int32.not_le.mp hc)] at h; exact h) hP hS hl)
          · cases h
        case ifCond cnd off =>
          obtain ⟨rfl, he⟩ := he
          split at h
          · cases cnd <;> dsimp only [ra_br] at h
            · exact lv_if_eq hx hb hd he (fun hc => go _ _ _ _ _ _ _ (by rw [if_pos hc] at h; exact h) hP hS hl) (fun hc => go _ _ _ _ _ _ _ (by rw [if_neg hc] at h; exact h) hP hS hl)
            · exact lv_if_ne hx hb hd he (fun hc => go _ _ _ _ _ _ _ (by rw [if_neg hc] at h; exact h) hP hS hl) (fun hc => go _ _ _ _ _ _ _ (by rw [if_pos hc] at h; exact h) hP hS hl)
            · exact lv_if_lt hx hb hd he (fun hc => go _ _ _ _ _ _ _ (by rw [if_pos hc] at h; exact h) hP hS hl) (fun hc => go _ _ _ _ _ _ _ (by rw [if_neg hc] at h; exact h) hP hS hl)
            · exact lv_if_ge hx hb hd he (fun hc => go _ _ _ _ _ _ _ (by rw [if_neg (Int32.not_lt.mpr hc)] at h; exact h) hP hS hl) (fun hc => go _ _ _ _ _ _ _ (by rw [if_pos (Int32.not_le.mp hc)] at h; exact h) hP hS hl)
            · exact lv_if_gt hx hb hd he (fun hc => go _ _ _ _ _ _ _ (by rw [if_pos hc] at h; exact h) hP hS hl) (fun hc => go _ _ _ _ _ _ _ (by rw [if_neg hc] at h; exact h) hP hS hl)
            · exact lv_if_le hx hb hd he (fun hc => go _ _ _ _ _ _ _ (by rw [if_neg (Int32.not_lt.mpr hc)] at h; exact h) hP hS hl) (fun hc => go _ _ _ _ _ _ _ (by rw [if_pos (Int32.not_le.mp hc)] at h; exact h) hP hS hl)
          · cases h
        case tableswitch d low hi offs =>
          obtain ⟨he1, he2, he3, he4⟩ := he
          split at h
          · rename_i y r
            rcases ra_tsw_some _ _ h with ⟨j, o, h1, h2, h3⟩ | ⟨h1, h2⟩
            · have hj : j < offs.toList.length := (List.getElem?_eq_some_iff.mp h1).1
              have hy : y.toInt = low + j := by rw [h2]; exact Int32.toInt_ofInt_of_le (by omega) (by omega)
              have ho : 0 ≤ (pc : Int) + o := of_decide_eq_true (List.all_eq_true.mp he4 o (List.mem_of_getElem? h1))
              refine lv_tableIn (off := o) (tgt := ((pc : Int) + o).toNat) hx hb hd (by omega) (by omega) ?_ (by omega) (go _ _ _ _ _ _ _ h3 hP hS hl)
              rw [hy, show (low + (j : Int) - low).toNat = j by omega, ← Array.getElem?_toList]
              exact h1
            · refine lv_tableOut (tgt := ((pc : Int) + d).toNat) hx hb hd ?_ (by omega) (go _ _ _ _ _ _ _ h2 hP hS hl)
              by_cases q1 : y.toInt < low
              · exact Or.inl q1
              · by_cases q2 : hi < y.toInt
                · exact Or.inr q2
                · exfalso
                  refine h1 (y.toInt - low).toNat (by omega) ?_
                  rw [show low + (((y.toInt - low).toNat : Nat) : Int) = y.toInt by omega, Int32.ofInt_toInt]
          · cases h
        case lookupswitch d ps =>
          obtain ⟨he1, he2, he3⟩ := he
          split at h
          · obtain ⟨o, h1, h2, h3⟩ := ra_lsw_some (k := fun t => ra_rn n κ t lo _ σ) _ he3 he1 h
            exact lv_lookup (tgt := ((pc : Int) + o).toNat) hx hb hd he2 h1 (by omega) (go _ _ _ _ _ _ _ h3 hP hS hl)
          · cases h
        case ireturn =>
          subst he
          split at h
          · split at h
            · rename_i hrt
              cases h
              exact hret _ rfl _ _ _ _ _ hP hS hd ⟨rfl, Or.inl hrt⟩
            · rename_i hrt
              split at h
              · rename_i hv
                cases h
                exact hret _ rfl _ _ _ _ _ hP hS hd ⟨rfl, Or.inr ⟨hrt, hv⟩⟩
              · cases h
            · cases h
          · cases h
        case lreturn =>
          subst he
          split at h
          · split at h
            · rename_i hrt
              cases h
              exact hret _ rfl _ _ _ _ _ hP hS hd ⟨rfl, hrt⟩
            · cases h
          · cases h
        case return_ =>
          subst he
          split at h
          · split at h
            · rename_i hrt
              cases h
              exact hret _ rfl _ _ _ _ _ hP hS hd ⟨rfl, hrt⟩
            · cases h
          · cases h
        case idiv =>
          subst he
          split at h
          · split at h
            · cases h
            · rename_i hy; exact lv_idiv hx hb hd hy (go _ _ _ _ _ _ _ h hP hS hl)
          · cases h
        case irem =>
          subst he
          split at h
          · split at h
            · cases h
            · rename_i hy; exact lv_irem hx hb hd hy (go _ _ _ _ _ _ _ h hP hS hl)
          · cases h
        case ldiv =>
          subst he
          split at h
          · split at h
            · cases h
            · rename_i hy; exact lv_ldiv hx hb hd hy (go _ _ _ _ _ _ _ h hP hS hl)
          · cases h
        case lrem =>
          subst he
          split at h
          · split at h
            · cases h
            · rename_i hy; exact lv_lrem hx hb hd hy (go _ _ _ _ _ _ _ h hP hS hl)
          · cases h
        case getfield idx =>
          obtain ⟨rfl, he⟩ := he
          split at h
          · obtain ⟨fks, fk, h1, h2, h3⟩ := ra_fd_some h
            obtain ⟨q0, w1, -⟩ := ra_w_cell (ad := ad) (cA := cA) (hlt _ _ h1) h1 σ
            simp only [Bool.or_eq_true, Bool.and_eq_true, decide_eq_true_eq] at he
            rcases he with ⟨-, he⟩ | ⟨-, he⟩
            · obtain ⟨q, hq, hbq, hlk⟩ := ra_fld hM.1 (idx := idx) (a := a) (b := b) (by simpa only [Bool.and_eq_true] using he)
              obtain ⟨C, T, N⟩ := q
              exact va_get (D := D) (ci := a) hx hb hts (ra_lays a _ hq) hown hK hP q0 w1 hq b hbq (hts _ hlk) (fun _ h9 => h9) (ra_fs h2) hd (go _ _ _ _ _ _ _ h3 hP hS hl)
            · have hsh := ra_sh_ok (hlay _ _ h1)
              unfold ra_fwN at he
              unfold ra_shb at hsh
              cases hq : vwCl[a]? with
              | none => rw [hq] at hsh; cases hsh
              | some q =>
                rw [hq] at hsh he
                simp only [Bool.and_eq_true, decide_eq_true_eq] at hsh
                obtain ⟨C, T, N⟩ := q
                have hbq : b < N := by have h9 : fks.length = N := hsh.1; rw [← h9]; exact (List.getElem?_eq_some_iff.mp h2).1
                exact va_getN (D := D) (ci := a) (host := "StickStrings") hx hb hts (ra_lays a _ hq) hown hK hP q0 w1 hq b hbq (va_Nw.use rfl (hN _ he)) (fun _ h9 => h9) (ra_fs h2) hd (go _ _ _ _ _ _ _ h3 hP hS hl)
          · cases h
        case putfield idx =>
          obtain ⟨rfl, he, hfin⟩ := he
          obtain ⟨q, hq, hbq, hlk⟩ := ra_fld hM.1 (idx := idx) (a := a) (b := b) he
          obtain ⟨ty0, hty, hnm⟩ := ra_tys a q hq
          unfold ra_fin at hfin
          rw [hq] at hfin
          simp only [Bool.not_eq_true'] at hfin
          split at h
          · rename_i y i0 r
            obtain ⟨fks, fk, h1, h2, h3⟩ := ra_fd_some h
            obtain ⟨q0, w1, w2⟩ := ra_w_cell (ad := ad) (cA := cA) (hlt _ _ h1) h1 σ
            split at h3
            · obtain ⟨h4, h5⟩ := ra_gp_some h3
              have hsh := ra_sh_ok (hlay _ _ h1)
              unfold ra_shb at hsh
              rw [hq] at hsh
              simp only [Bool.and_eq_true, decide_eq_true_eq] at hsh
              have h6 := List.all_eq_true.mp hsh.2 b (List.mem_range.mpr hbq)
              rw [h2] at h6
              simp only [Bool.or_eq_true, Bool.and_eq_true, decide_eq_true_eq] at h6
              obtain ⟨C, T, N⟩ := q
              have hlen : b < (fks.mapIdx (fun k fk => ra_cv ad (ra_fa σ i0 k fk))).length := by rw [List.length_mapIdx]; exact (List.getElem?_eq_some_iff.mp h2).1
              have fin : ∀ (ty : FieldType), parseFieldDescriptor (T b).2.2.1 = some ty → narrow ty (.int y) = .int y → fits ty (.int y) = true → W p l e R s m args below meth c H locs cells slots Q (F0 m pc ls (.int y :: .ref (ad i0) :: r.map (ra_cv ad))) := by
                intro ty t1 t2 t3
                exact va_put (D := D) (ci := a) (A := A0) (H0 := H0) hx hb hts (ra_lays a _ hq) ty0 hty hnm hown hK hP (hDw σ) hS q0 w1 hq b hbq (hts _ hlk) (fun _ h9 => h9) hfin t1 t2 t3 hlen hd
                  (fun H1 locs1 g1 g2 g3 => go _ _ _ _ _ _ _ h5 (by rw [w2 (ra_ui σ i0 b y) (fun j hj => ra_ui_1 j hj) (fun j hj => rfl), ra_ce_ui h2]; exact g1) g3 hl)
              rcases h6 with h6 | ⟨h6, h7⟩
              · exact fin _ h6 rfl rfl
              · rw [h7] at h4
                rcases h4 with h4 | h4 | h4
                · cases h4
                · subst h4; exact fin _ h6 (by decide) (by decide)
                · subst h4; exact fin _ h6 (by decide) (by decide)
            · cases h3
          · rename_i y i0 r
            obtain ⟨fks, fk, h1, h2, h3⟩ := ra_fd_some h
            obtain ⟨q0, w1, w2⟩ := ra_w_cell (ad := ad) (cA := cA) (hlt _ _ h1) h1 σ
            split at h3
            · have hsh := ra_sh_ok (hlay _ _ h1)
              unfold ra_shb at hsh
              rw [hq] at hsh
              simp only [Bool.and_eq_true, decide_eq_true_eq] at hsh
              have h6 := List.all_eq_true.mp hsh.2 b (List.mem_range.mpr hbq)
              rw [h2] at h6
              simp only [decide_eq_true_eq] at h6
              obtain ⟨C, T, N⟩ := q
              have hlen : b < (fks.mapIdx (fun k fk => ra_cv ad (ra_fa σ i0 k fk))).length := by rw [List.length_mapIdx]; exact (List.getElem?_eq_some_iff.mp h2).1
              exact va_put (D := D) (ci := a) (A := A0) (H0 := H0) (v := .long y) hx hb hts (ra_lays a _ hq) ty0 hty hnm hown hK hP (hDw σ) hS q0 w1 hq b hbq (hts _ hlk) (fun _ h9 => h9) hfin h6 rfl rfl hlen hd
                  (fun H1 locs1 g1 g2 g3 => go _ _ _ _ _ _ _ h3 (by rw [w2 (ra_ul σ i0 b y) (fun j hj => rfl) (fun j hj => ra_ul_2 j hj), ra_ce_ul h2]; exact g1) g3 hl)
            · cases h3
          · cases h
        case iaload =>
          subst he
          split at h
          · split at h
            · rename_i hi
              have hi := Nat.eq_of_beq_eq_true hi
              subst hi
              split at h
              · rename_i xs hxs
                obtain ⟨g1, g2, g3⟩ := hscr xs hxs
                split at h
                · rename_i hin
                  exact va_sld hx hb g1 g2 g3 hS (vp_in_iff.mpr hin) hd (go _ _ _ _ _ _ _ h hP hS hl)
                · cases h
              · cases h
            · obtain ⟨k, h1, h2, h3⟩ := ra_el_some h
              obtain ⟨q0, w1, w2⟩ := ra_w_cell (ad := ad) (cA := cA) (hlt _ _ h1) h1 σ
              rw [ra_ce_a (by decide)] at w1
              exact va_iald hx hb hK hP q0 0 w1 rfl h2 hd (go _ _ _ _ _ _ _ h3 hP hS hl)
          · cases h
        case baload =>
          subst he
          split at h
          · obtain ⟨k, h1, h2, h3⟩ := ra_el_some h
            obtain ⟨q0, w1, w2⟩ := ra_w_cell (ad := ad) (cA := cA) (hlt _ _ h1) h1 σ
            rw [ra_ce_a (by decide)] at w1
            exact va_zald hx hb hK hP q0 1 w1 rfl h2 hd (go _ _ _ _ _ _ _ h3 hP hS hl)
          · cases h
        case laload =>
          subst he
          split at h
          · obtain ⟨k, h1, h2, h3⟩ := ra_el_some h
            obtain ⟨q0, w1, w2⟩ := ra_w_cell (ad := ad) (cA := cA) (hlt _ _ h1) h1 σ
            rw [ra_ce_a2] at w1
            exact va_lald hx hb hK hP q0 2 w1 rfl h2 hd (go _ _ _ _ _ _ _ h3 hP hS hl)
          · cases h
        case iastore =>
          subst he
          split at h
          · rename_i y j0 i0 r
            obtain ⟨k, h1, h2, h3⟩ := ra_el_some h
            obtain ⟨q0, w1, w2⟩ := ra_w_cell (ad := ad) (cA := cA) (hlt _ _ h1) h1 σ
            rw [ra_ce_a (by decide)] at w1
            exact va_iast hx hb hK hP (hDw σ) hS q0 0 w1 rfl h2 hd (fun H1 locs1 g1 g2 g3 => go _ _ _ _ _ _ _ h3 (by rw [w2 (ra_ui σ i0 j0.toNatClampNeg y) (fun j hj => ra_ui_1 j hj) (fun j hj => rfl), ra_ce_ai (by decide)]; exact g1) g3 hl)
          · cases h
        case bastore =>
          subst he
          split at h
          · rename_i y j0 i0 r
            obtain ⟨k, h1, h2, h3⟩ := ra_el_some h
            obtain ⟨h4, h5⟩ := ra_gp_some h3
            obtain ⟨q0, w1, w2⟩ := ra_w_cell (ad := ad) (cA := cA) (hlt _ _ h1) h1 σ
            rw [ra_ce_a (by decide)] at w1
            refine va_zast hx hb hK hP (hDw σ) hS q0 1 w1 rfl h2 hd (fun H1 locs1 g1 g2 g3 => go _ _ _ _ _ _ _ h5 ?_ g3 hl)
            rw [w2 (ra_ui σ i0 j0.toNatClampNeg y) (fun j hj => ra_ui_1 j hj) (fun j hj => rfl), ra_ce_ai (by decide)]
            rcases h4 with h4 | h4 <;> subst h4 <;> exact g1
          · cases h
        case lastore =>
          subst he
          split at h
          · rename_i y j0 i0 r
            obtain ⟨k, h1, h2, h3⟩ := ra_el_some h
            obtain ⟨q0, w1, w2⟩ := ra_w_cell (ad := ad) (cA := cA) (hlt _ _ h1) h1 σ
            rw [ra_ce_a2] at w1
            exact va_last hx hb hK hP (hDw σ) hS q0 2 w1 rfl h2 hd (fun H1 locs1 g1 g2 g3 => go _ _ _ _ _ _ _ h3 (by rw [w2 (ra_ul σ i0 j0.toNatClampNeg y) (fun j hj => rfl) (fun j hj => ra_ul_2 j hj), ra_ce_al]; exact g1) g3 hl)
          · cases h
        case arraylength =>
          subst he
          split at h
          · split at h
            · rename_i hi
              have hi := Nat.eq_of_beq_eq_true hi
              subst hi
              split at h
              · rename_i xs hxs
                obtain ⟨g1, g2, g3⟩ := hscr xs hxs
                exact va_slen hx hb g1 g2 g3 hS hd (go _ _ _ _ _ _ _ h hP hS hl)
              · cases h
            · split at h
              · rename_i i0 r hi q h1
                obtain ⟨ty, k⟩ := q
                have hty := ra_ar_ok (hlay _ _ h1)
                obtain ⟨q0, w1, w2⟩ := ra_w_cell (ad := ad) (cA := cA) (hlt _ _ h1) h1 σ
                rcases (show ty = 0 ∨ ty = 1 ∨ ty = 2 by omega) with rfl | rfl | rfl
                · rw [ra_ce_a (by decide)] at w1; exact va_alen hx hb hK hP q0 0 w1 (ty := .int) rfl rfl hd (go _ _ _ _ _ _ _ h hP hS hl)
                · rw [ra_ce_a (by decide)] at w1; exact va_alen hx hb hK hP q0 1 w1 (ty := .boolean) rfl rfl hd (go _ _ _ _ _ _ _ h hP hS hl)
                · rw [ra_ce_a2] at w1; exact va_alen hx hb hK hP q0 2 w1 (ty := .long) rfl rfl hd (go _ _ _ _ _ _ _ h hP hS hl)
              · cases h
          · cases h
        case invokestatic idx =>
          obtain ⟨rfl, he⟩ := he
          simp only [Bool.or_eq_true, Bool.and_eq_true, decide_eq_true_eq, Nat.ble_eq] at he
          split at h
          · rename_i hb1
            have hb1 := Nat.eq_of_beq_eq_true hb1
            subst hb1
            rcases he with (⟨-, hlk, hf1, hf2⟩ | ⟨h0, -⟩) | ⟨h0, -⟩
            · unfold ra_ac at h
              rw [hκ] at h
              split at h
              · split at h
                · split at h
                  · split at h
                    · rename_i mm dp j0 sp i0 r _ m0 hl0 _ m1 hl1 hc
                      obtain ⟨h4, h5⟩ := ra_gd_some h
                      obtain ⟨rfl, rfl, q1, q2, q3⟩ := hc
                      have h4 := Nat.le_of_ble_eq_true h4
                      have q4 : mm.toNatClampNeg = mm.toInt.toNat := rfl
                      have q5 : (0 : Int32).toNatClampNeg = 0 := by decide
                      obtain ⟨q0, w1, -⟩ := ra_w_cell (ad := ad) (cA := cA) (hlt _ _ hl0) hl0 σ
                      obtain ⟨q1', z1, z2⟩ := ra_w_cell (ad := ad) (cA := cA) (hlt _ _ hl1) hl1 σ
                      rw [ra_ce_a (by decide)] at w1 z1
                      refine va_copyi hx hb (hml.trans hl.1.symm) hown (hts _ (ra_tb_of hlk rfl)) (hts _ ra_ac1) (hts _ ra_ac2) (hts _ ra_ac3) hK hP (hDw σ) hS q0 q1' 0 0 w1 z1 rfl rfl rfl (by decide) (by decide) (by rw [Int32.lt_iff_toInt_lt]; exact Int.not_lt.mpr q1) (by omega) (by omega) (fun _ _ => rfl) (Nat.le_trans hf1 hR.1) ?_ hd (fun H1 locs1 g1 g2 g3 => go _ _ _ _ _ _ _ h5 (by rw [z2 (ra_cp σ i0 j0 mm.toNatClampNeg) (fun j hj => ra_cp_1 j hj) (fun j hj => rfl), ra_ce_cp]; exact g1) g3 hl)
                      show (List.map (fun v => v.category) (r.map (ra_cv ad))).sum + (nativeFrameWords "java/lang/System" "arraycopy" 5 + 11) ≤ R.locals
                      have : nativeFrameWords "java/lang/System" "arraycopy" 5 = 7 := by decide
                      rw [this, ra_cv_cats]
                      exact Nat.le_trans (by omega) (Nat.le_trans hf2 hR.2)
                    · cases h
                  · cases h
                · cases h
              · cases h
            · cases h0
            · cases h0
          · rename_i hb1
            split at h
            · rename_i q hpop
              obtain ⟨as, r⟩ := q
              obtain ⟨hst, h⟩ := ra_gd_some h
              obtain ⟨p1, p2⟩ := ra_pop_spec _ _ _ _ _ hpop
              have hco := ra_call_ok a
              have hc := (ra_gd_some (show ra_gd _ _ = some _ from h)).1
              simp only [Bool.and_eq_true, Nat.ble_eq] at hc
              have hst2 : st.map (ra_cv ad) = (as.map (ra_cv ad)).reverse ++ r.map (ra_cv ad) := by
                rw [← List.map_reverse, ← List.map_append, ← p1]; rfl
              have hwd : 2 * (F0 m pc ls (st.map (ra_cv ad))).monitorRoom + ((r.map (ra_cv ad)).map fun v => v.category).sum ≤ 8 := lv_room (by rw [ra_cv_cats]; exact hc.1)
              refine ra_inv_W hA0 hκ hCn h hS (fun v σ1 hMet => ?_) (fun st1 σ1 H1 locs1 g1 g2 g3 => go _ _ _ _ _ _ _ g1 g2 g3 hl)
              have hpre : PreS s H (va_Pc (as.map (ra_cv ad)) (ra_B lay D ad cA σ)) (as.map (ra_cv ad)) := ⟨ra_blind, fun U hU hW => ⟨rfl, by rw [hU]; exact hP, va_K.moved hW.alike hK, ra_nest_warm hW hN⟩⟩
              have hnn : (as.map (ra_cv ad)).length = (ra_mt a).2.2.2.2.1.2 := by rw [List.length_map, p2]; simp
              rcases he with (⟨h0, -⟩ | ⟨-, he, hr1, hr2⟩) | ⟨-, he, hr1, hr2⟩
              · subst h0; exact absurd hb1 (by decide)
              · exact va_runS (own := κ.2.2.2.2.1.cls) ⟨hx, hb, hml, hown, hts⟩ hMet ⟨callB_of _ hts (ra_good hco) rfl rfl rfl (hts _ hco.2.2.1) (hts _ (ra_mlk hM.1 (by simpa only [Bool.and_eq_true] using he))) ⟨hco.1.2.2.1.1, hco.1.2.2.1.2, hco.1.2.2.2.1⟩ ⟨Nat.le_trans hr1 hR.1, Nat.le_trans hr2 hR.2⟩, hts _ (hco.2.2.2.1 hst)⟩ hpre rfl hnn hl.1 hst2 hwd hd hcs
              · exact va_runSN (own := κ.2.2.2.2.1.cls) (host := "StickStrings") ⟨hx, hb, hml, hown, hts⟩ hMet ⟨va_cnB _ hts (ra_good hco) rfl rfl rfl (hN _ he) (hts _ hco.2.2.1) ⟨hco.1.2.2.1.1, hco.1.2.2.1.2, hco.1.2.2.2.1⟩ ⟨Nat.le_trans hr1 hR.1, Nat.le_trans hr2 hR.2⟩, hts _ (hco.2.2.2.1 hst), trivial⟩ hpre rfl hnn hl.1 hst2 hwd hd hcs
            · cases h
        case invokevirtual idx =>
          obtain ⟨rfl, he, hr1, hr2⟩ := he
          have hr1 := Nat.le_of_ble_eq_true hr1
          have hr2 := Nat.le_of_ble_eq_true hr2
          split at h
          · rename_i q hpop
            obtain ⟨as, r0⟩ := q
            dsimp only at h
            split at h
            · split at h
              · rename_i i0 r _ o hlay'
                obtain ⟨hci, h⟩ := ra_gd_some h
                simp only [Bool.and_eq_true, Bool.not_eq_true'] at hci
                have hst := hci.2
                have hci := Nat.eq_of_beq_eq_true hci.1
                obtain ⟨p1, p2⟩ := ra_pop_spec _ _ _ _ _ hpop
                have hco := ra_call_ok a
                have hc := (ra_gd_some (show ra_gd _ _ = some _ from h)).1
                simp only [Bool.and_eq_true, Nat.ble_eq] at hc
                have hst2 : st.map (ra_cv ad) = (as.map (ra_cv ad)).reverse ++ .ref (ad i0) :: r.map (ra_cv ad) := by
                  rw [← List.map_reverse, show Value.ref (ad i0) :: r.map (ra_cv ad) = (Value.ref i0 :: r).map (ra_cv ad) from rfl, ← List.map_append, ← p1]; rfl
                have hwd : 2 * (F0 m pc ls (st.map (ra_cv ad))).monitorRoom + ((r.map (ra_cv ad)).map fun v => v.category).sum ≤ 8 := lv_room (by rw [ra_cv_cats]; exact hc.1)
                have hnn : (as.map (ra_cv ad)).length = (ra_mt a).2.2.2.2.1.2 := by rw [List.length_map, p2]; simp
                obtain ⟨hi1, hi2, q, hq1, hq2⟩ := hco.2.2.2.2 hst
                refine ra_inv_W hA0 hκ hCn h hS (fun v σ1 hMet => ?_) (fun st1 σ1 H1 locs1 g1 g2 g3 => go _ _ _ _ _ _ _ g1 g2 g3 hl)
                obtain ⟨q0, w1, -⟩ := ra_w_cell (ad := ad) (cA := cA) (hlt _ _ hlay') hlay' σ
                have hrv : ∃ cell : Cell, H[ad i0]? = some cell ∧ cell.vm.isStatics = false ∧ s.vm.findClass (ra_mt a).2.1.cls = some cell.cls := by
                  rw [← hq2]
                  exact va_recv hK hP (ci := o.1) (by rw [hci]; exact hq1) w1
                exact va_runV (own := κ.2.2.2.2.1.cls) (C := (ra_mt a).2.1.cls) ⟨hx, hb, hml, hown, hts⟩ hMet ⟨callB_of _ hts (ra_good hco) rfl rfl rfl (hts _ hco.2.2.1) (hts _ (ra_mlk hM.1 he)) ⟨hco.1.2.2.1.1, hco.1.2.2.1.2, hco.1.2.2.2.1⟩ ⟨Nat.le_trans hr1 hR.1, Nat.le_trans hr2 hR.2⟩, hts _ hi1, hts _ hi2⟩
                  ⟨ra_blind, hrv, fun U hU hW => ⟨rfl, by rw [hU]; exact hP, va_K.moved hW.alike hK, ra_nest_warm hW hN⟩⟩ rfl hnn hl.1 hst2 hwd hd hcs
              · cases h
            · cases h
          · cases h
        all_goals (split at h <;> first
          | (rename_i q hq; exact ra_sx_W hF' hE' (lo' := q.1) (st' := q.2) hq hl (fun ls' hl' => go _ _ _ _ _ _ _ h hP hS hl'))
          | (cases h; done))
end RAG
/-- Met out of a walk, for a class of which some other methods are the machine's own -/
theorem ra_ofW {l : Launch} {y : MethodName} {ws ws' : List Cond} {rm : Room} {Pc : Array Value → State → Prop} {Qc : Array Value → State → Outcome → State → Prop} {mc ms : Nat} {free : Addr → Prop} {cc : ByteArray} {maxL : Nat} {ret : Option FieldType}
    (hy : plainFor y = true) (hw : ws = Cond.code y cc maxL ret :: ws')
    (body : ∀ p e s m args below meth c s₁, BodyLoose p l y (headSpec ws rm) cc maxL ret e s m args below meth c s₁ → c.maxLocals = maxL → Pc args s →
      W p l e (headSpec ws rm).room s m args below meth c s.heap [] 0 0 (MQ below Qc args s mc ms free) (entryFrame m args maxL)) : Met l y ws rm Pc Qc mc ms free := by
  refine MetFree.of_bodySF (code := cc) (maxLocals := maxL) (ret := ret) hy ?_ ?_
  · intro args s m h hn
    obtain ⟨meth, c, h1, h2, h3, h4, h5, h6, -, -⟩ := Cond.code_spec hn (atoms_spec (ws := ws) h _ (by rw [hw]; exact List.mem_cons_self))
    exact ⟨meth, c, h1, h2, h3, h4, h5, h6⟩
  · intro p e s m args below meth c s₁ B hml hP _
    have hh0 : s₁.heap = s.heap := by rw [B.state]; rfl
    obtain ⟨t, a1, o, b1, b2, b3⟩ := body p e s m args below meth c s₁ B hml hP s₁ hh0 (Stand.of_body B)
    exact ⟨t, o, a1, b1, b2, ⟨b3.1, b3.2⟩⟩
theorem ra_rep (n i : Nat) (v : Value) : ra_nth (List.replicate n none) i ≠ some v := by
  rw [ra_nth_eq]
  by_cases h : i < n
  · simp [List.getElem?_replicate, h]
  · simp [List.getElem?_replicate, h]
theorem ra_lo0_mem {ad : Nat → Nat} : ∀ (vs : List Value) (n k i : Nat) (v : Value), ra_nth (ra_lo0 n vs) i = some v → (k + i, ra_cv ad v) ∈ lv_args k (vs.map (ra_cv ad))
  | [], n, k, i, v, h => absurd h (by unfold ra_lo0; exact ra_rep n i v)
  | w :: vs, 0, k, i, v, h => by unfold ra_lo0 at h; cases h
  | w :: vs, n + 1, k, i, v, h => by
    have other : ∀ (w : Value), w.category = 1 → ra_nth (some w :: ra_lo0 n vs) i = some v → (k + i, ra_cv ad v) ∈ lv_args k ((w :: vs).map (ra_cv ad)) := by
      intro w hw h
      show _ ∈ (k, ra_cv ad w) :: lv_args (if (ra_cv ad w).category = 2 then k + 2 else k + 1) (vs.map (ra_cv ad))
      rw [ra_cv_cat, hw, if_neg (by decide)]
      cases i with
      | zero => cases h; exact List.mem_cons_self
      | succ i =>
        have := ra_lo0_mem (ad := ad) vs n (k + 1) i v h
        rw [show k + (i + 1) = k + 1 + i by omega]
        exact List.mem_cons_of_mem _ this
    cases w with
    | long z =>
      show _ ∈ (k, Value.long z) :: lv_args (k + 2) (vs.map (ra_cv ad))
      unfold ra_lo0 at h
      cases i with
      | zero => cases h; exact List.mem_cons_self
      | succ i =>
        cases n with
        | zero => cases h
        | succ n =>
          cases i with
          | zero => cases h
          | succ i =>
            have := ra_lo0_mem (ad := ad) vs n (k + 2) i v h
            rw [show k + (i + 1 + 1) = k + 2 + i by omega]
            exact List.mem_cons_of_mem _ this
    | double z => unfold ra_lo0 at h; cases h
    | int z => exact other _ rfl h
    | float z => exact other _ rfl h
    | null => exact other _ rfl h
    | ref z => exact other _ rfl h
    | retAddr z => exact other _ rfl h
theorem ra_sl_len (vs : List Value) : (lg_sl vs).length = (vs.map fun v => v.category).sum := by
  induction vs with
  | nil => rfl
  | cons v vs ih =>
    unfold lg_sl at ih ⊢
    rw [List.flatMap_cons, List.length_append, ih, List.map_cons, List.sum_cons]
    cases v <;> rfl
set_option maxHeartbeats 4000000 in
/-- EVERY RUN OF A METHOD OF THE TABLE IS A CONTRACT -/
theorem ra_met {l : Launch} {lay : Nat → Option ra_H} (hlay : ∀ i h, lay i = some h → ra_lay i = some h) {D : va_G} {ad : Nat → Nat} {cA : Nat → ClassId} (hinj : ∀ i j, i < ra_nc → j < ra_nc → ad i = ad j → i = j) : ∀ n, ra_CT l lay D ad cA n := by
  intro n
  induction n using Nat.strongRecOn with
  | _ n ih =>
    intro ν vs σ v σ' hcat hrun
    have hco := ra_call_ok ν
    refine ra_ofW (cc := (ra_mt ν).2.2.1) (maxL := (ra_mt ν).2.2.2.1.1) (ret := (ra_mt ν).2.2.2.1.2) hco.1.2.1 rfl ?_
    intro p e s m args below meth c s₁ B hml hv
    obtain ⟨rfl, hP, hK, hN⟩ := hv
    have hx := B.exec
    have hb := B.bytes
    have hr := B.returns
    have hts0 := atoms_spec (ws := ra_ws (ra_mt ν)) B.pre
    have hts : ∀ w ∈ ra_tb, w.before (vs.map (ra_cv ad)).toArray s = true := fun w hw => hts0 w (List.mem_cons_of_mem _ hw)
    have hown : s.vm.findClass (ra_mt ν).2.1.cls = some m.cls := findClass_of_methodNamed B.named
    have hlocks := B.notSynchronized
    have hcat' : (lg_sl (vs.map (ra_cv ad))).length ≤ (ra_mt ν).2.2.2.1.1 := by rw [ra_sl_len, ra_cv_cats]; exact hcat
    have hl := lv_entry (vs.map (ra_cv ad)) hcat'
    rw [lg_entry_eq]
    generalize (lg_sl (vs.map (ra_cv ad)) ++ List.replicate ((ra_mt ν).2.2.2.1.1 - (lg_sl (vs.map (ra_cv ad))).length) Slot.unset).toArray = ls at hl ⊢
    have hok : ra_ok ad (ra_mt ν).2.2.2.1.1 (ra_lo0 (ra_mt ν).2.2.2.1.1 vs) ls := ⟨hl.1, hl.2.1, fun i w hw _ => by
      have := hl.2.2 _ (ra_lo0_mem (ad := ad) vs _ 0 i w hw)
      rw [Nat.zero_add] at this
      exact this⟩
    refine ra_walk (κ := (lay, none, 99999, ra_mt ν)) (A0 := ra_A ad) (H0 := s.heap) (cells := 0) (slots := 0) hinj (fun q h => h) rfl hlay ⟨hx, hb, hml, hown, hts, hco.1⟩ hK hN ⟨Nat.le_refl _, Nat.le_refl _⟩ ⟨Nat.le_refl _, Nat.le_refl _⟩ (fun xs h => by cases h) (.inl v) σ' ?_ ?_ n (fun k hk => ih k hk) 0 _ [] σ s.heap [] ls hrun hP va_S.rf hok
    · intro v' hv' i H' locs' pc' ls' hP' hS' hd' hri
      cases hv'
      cases v with
      | none =>
        obtain ⟨rfl, hrt⟩ := hri
        exact W.vret hx hb (hr.trans hrt) (fun t ht hW => ⟨⟨rfl, by rw [ht]; exact hP'⟩, hS'.F ht⟩) hS'.2.2 hd'
      | some v =>
        cases v with
        | int z =>
          obtain ⟨rfl, hrt | ⟨hrt, hz⟩⟩ := hri
          · exact W.iret hx hb (hr.trans hrt) (fun t ht hW => ⟨⟨rfl, by rw [ht]; exact hP'⟩, hS'.F ht⟩) hS'.2.2 hd'
          · exact W.zret hx hb (hr.trans hrt) (by rcases hz with rfl | rfl <;> decide) (fun t ht hW => ⟨⟨rfl, by rw [ht]; exact hP'⟩, hS'.F ht⟩) hS'.2.2 hd'
        | long z =>
          obtain ⟨rfl, hrt⟩ := hri
          exact W.lret hx hb (hr.trans hrt) (fun t ht hW => ⟨⟨rfl, by rw [ht]; exact hP'⟩, hS'.F ht⟩) hS'.2.2 hd'
        | _ => cases hri
    · intro lo' st' h
      cases h
