-- ===== values, locals, and instructions that touch locals and stack alone =====
def ra_cv (ad : Nat → Nat) : Value → Value
  | .ref i => .ref (ad i)
  | v => v
theorem ra_cv_cat (ad : Nat → Nat) (v : Value) : (ra_cv ad v).category = v.category := by cases v <;> rfl
theorem ra_cv_cats (ad : Nat → Nat) (l : List Value) : ((l.map (ra_cv ad)).map fun v => v.category) = l.map fun v => v.category := by
  rw [List.map_map]
  exact List.map_congr_left (fun v _ => ra_cv_cat ad v)
theorem ra_nth_eq : ∀ (lo : ra_L) (i : Nat), ra_nth lo i = (lo[i]?).getD none
  | [], i => by simp [ra_nth]
  | a :: t, 0 => by simp [ra_nth]
  | a :: t, i + 1 => by simp [ra_nth, ra_nth_eq t i]
theorem ra_fr_eq : ∀ (lo : ra_L) (i : Nat), ra_fr lo i = true ↔ lo[i]? = some none
  | [], i => by simp [ra_fr]
  | none :: t, 0 => by simp [ra_fr]
  | some a :: t, 0 => by simp [ra_fr]
  | a :: t, i + 1 => by simp [ra_fr, ra_fr_eq t i]
theorem ra_nth_some {lo : ra_L} {i : Nat} {v : Value} : ra_nth lo i = some v ↔ lo[i]? = some (some v) := by
  rw [ra_nth_eq]
  cases lo[i]? with
  | none => simp
  | some x => simp
def ra_ok (ad : Nat → Nat) (nL : Nat) (lo : ra_L) (ls : Array Slot) : Prop := ls.size = nL ∧ lv_wf ls ∧ ∀ i v, ra_nth lo i = some v → (v.category = 2 → ra_fr lo (i + 1) = true) → ls[i]? = some (.val (ra_cv ad v))
def ra_lst (ad : Nat → Nat) (lo : ra_L) : List (Nat × Value) := (List.range lo.length).filterMap (fun i => match ra_nth lo i with
  | some v => if v.category = 2 → ra_fr lo (i + 1) = true then some (i, ra_cv ad v) else none
  | none => none)
theorem ra_lst_mem {ad : Nat → Nat} {lo : ra_L} {i : Nat} {v : Value} (h : ra_nth lo i = some v) (hc : v.category = 2 → ra_fr lo (i + 1) = true) : (i, ra_cv ad v) ∈ ra_lst ad lo := by
  refine List.mem_filterMap.mpr ⟨i, List.mem_range.mpr (List.getElem?_eq_some_iff.mp (ra_nth_some.mp h)).1, ?_⟩
  simp only [h]
  rw [if_pos hc]
theorem ra_lst_has {ad : Nat → Nat} {nL : Nat} {lo : ra_L} {ls : Array Slot} (h : ra_ok ad nL lo ls) : lv_has ls nL (ra_lst ad lo) := by
  refine ⟨h.1, h.2.1, fun q hq => ?_⟩
  obtain ⟨i, -, hi⟩ := List.mem_filterMap.mp hq
  cases hn : ra_nth lo i with
  | none => rw [hn] at hi; cases hi
  | some v =>
    rw [hn] at hi
    dsimp only at hi
    split at hi
    · rename_i hc
      rw [← Option.some.inj hi]
      exact h.2.2 i v hn hc
    · cases hi
theorem ra_ok_st {ad : Nat → Nat} {nL i : Nat} {lo : ra_L} {v : Value} {ls : Array Slot} (hv : v.category = 1) (h : lv_has ls nL ((i, ra_cv ad v) :: (ra_lst ad lo).filter (fun q => !(q.1 == i) && !(q.1 + 1 == i && q.2.category == 2)))) : ra_ok ad nL (ra_st lo i v) ls := by
  refine ⟨h.1, h.2.1, fun j w hw hc => ?_⟩
  unfold ra_st at hw hc
  rw [ra_nth_some, List.getElem?_set] at hw
  by_cases hij : i = j
  · subst hij
    simp only [if_true] at hw
    split at hw
    · cases hw
      exact h.2.2 (i, ra_cv ad v) List.mem_cons_self
    · cases hw
  · rw [if_neg hij] at hw
    have hc' : w.category = 2 → j + 1 ≠ i ∧ ra_fr lo (j + 1) = true := fun h2 => by
      have h3 := hc h2
      rw [ra_fr_eq, List.getElem?_set] at h3
      by_cases hj : i = j + 1
      · rw [if_pos hj] at h3
        split at h3
        · cases h3
        · cases h3
      · rw [if_neg hj] at h3
        exact ⟨fun q => hj q.symm, (ra_fr_eq _ _).mpr h3⟩
    refine h.2.2 (j, ra_cv ad w) (List.mem_cons_of_mem _ (List.mem_filter.mpr ⟨ra_lst_mem (ra_nth_some.mpr hw) (fun h2 => (hc' h2).2), ?_⟩))
    simp only [ra_cv_cat, Bool.and_eq_true, Bool.not_eq_true', beq_eq_false_iff_ne, ne_eq, Bool.and_eq_false_iff]
    refine ⟨fun q => hij q.symm, ?_⟩
    by_cases h2 : w.category = 2
    · exact Or.inl (hc' h2).1
    · exact Or.inr h2
theorem ra_ok_st2 {ad : Nat → Nat} {nL i : Nat} {lo : ra_L} {v : Value} {ls : Array Slot} (h : lv_has ls nL ((i, ra_cv ad v) :: (ra_lst ad lo).filter (fun q => !(q.1 == i) && (!(q.1 == i + 1) && !(q.1 + 1 == i && q.2.category == 2))))) : ra_ok ad nL (ra_st2 lo i v) ls := by
  refine ⟨h.1, h.2.1, fun j w hw hc => ?_⟩
  unfold ra_st2 at hw hc
  rw [ra_nth_some, List.getElem?_set] at hw
  by_cases h1 : i + 1 = j
  · rw [if_pos h1] at hw
    split at hw <;> cases hw
  · rw [if_neg h1, List.getElem?_set] at hw
    by_cases hij : i = j
    · subst hij
      simp only [if_true] at hw
      split at hw
      · cases hw
        exact h.2.2 (i, ra_cv ad v) List.mem_cons_self
      · cases hw
    · rw [if_neg hij] at hw
      have hc' : w.category = 2 → j + 1 ≠ i ∧ ra_fr lo (j + 1) = true := fun h2 => by
        have h3 := hc h2
        rw [ra_fr_eq, List.getElem?_set] at h3
        by_cases hj : i + 1 = j + 1
        · exact absurd (Nat.succ.inj hj) hij
        · rw [if_neg hj, List.getElem?_set] at h3
          by_cases hj2 : i = j + 1
          · rw [if_pos hj2] at h3
            split at h3
            · cases h3
            · cases h3
          · rw [if_neg hj2] at h3
            exact ⟨fun q => hj2 q.symm, (ra_fr_eq _ _).mpr h3⟩
      refine h.2.2 (j, ra_cv ad w) (List.mem_cons_of_mem _ (List.mem_filter.mpr ⟨ra_lst_mem (ra_nth_some.mpr hw) (fun h2 => (hc' h2).2), ?_⟩))
      simp only [ra_cv_cat, Bool.and_eq_true, Bool.not_eq_true', beq_eq_false_iff_ne, ne_eq, Bool.and_eq_false_iff]
      refine ⟨fun q => hij q.symm, fun q => h1 q.symm, ?_⟩
      by_cases h2 : w.category = 2
      · exact Or.inl (hc' h2).1
      · exact Or.inr h2
/-- what holds of a frame that runs method M -/
def ra_Fx (p : Program) (s : State) (m : MethodId) (args : Array Value) (c : Code) (M : ra_M) : Prop :=
  p.tables.exec = Jvm.exec ∧ c.code = M.2.2.1 ∧ c.maxLocals = M.2.2.2.1.1 ∧ s.vm.findClass M.2.1.cls = some m.cls ∧ (∀ w ∈ ra_tb, w.before args s = true) ∧ ra_mok M
section RAS
variable {p : Program} {l : Launch} {e : Env} {R : Room} {s : State} {m : MethodId} {args : Array Value} {below : List Frame} {meth : Method} {c : Code} {H : Heap} {locs : List Loc} {cells slots : Nat} {Q : State → Prop}
set_option maxHeartbeats 8000000 in
set_option maxRecDepth 100000 in
theorem ra_sx_W {ad : Nat → Nat} {M : ra_M} (hF : ra_Fx p s m args c M) {pc : Nat} {x : ra_E} (he : ra_eok M pc x = true) {lo lo' : ra_L} {st st' : List Value} (h : ra_sx x lo st = some (lo', st')) {ls : Array Slot} (hl : ra_ok ad M.2.2.2.1.1 lo ls)
    (kk : ∀ ls', ra_ok ad M.2.2.2.1.1 lo' ls' → W p l e R s m args below meth c H locs cells slots Q (F0 m (pc + x.2.1) ls' (st'.map (ra_cv ad)))) : W p l e R s m args below meth c H locs cells slots Q (F0 m pc ls (st.map (ra_cv ad))) := by
  obtain ⟨hx, hb, hml, hown, hts, hM⟩ := hF
  obtain ⟨i, len, a, b, xi, xj⟩ := x
  unfold ra_eok at he
  simp only [Bool.and_eq_true, decide_eq_true_eq] at he
  obtain ⟨hd, he⟩ := he
  unfold ra_sx at h
  cases i <;> dsimp only at h he hd kk
  all_goals (try simp only [Bool.and_eq_true, decide_eq_true_eq] at he)
  all_goals first
    | (cases h; done)
    | skip
  case iconst v => cases h; obtain ⟨rfl, rfl⟩ := he; exact lv_iconst hx hb hd rfl (kk _ hl)
  case bipush v => cases h; obtain ⟨rfl, rfl⟩ := he; exact lv_bipush hx hb hd rfl (kk _ hl)
  case sipush v => cases h; obtain ⟨rfl, rfl⟩ := he; exact lv_sipush hx hb hd rfl (kk _ hl)
  case ldc v => cases h; obtain ⟨rfl, he⟩ := he; exact lv_ldc hx hb hown (hts _ (ra_cst hM.1 he)) hd (kk _ hl)
  case ldc_w v => cases h; obtain ⟨rfl, he⟩ := he; exact lv_ldcw hx hb hown (hts _ (ra_cst hM.1 he)) hd (kk _ hl)
  case lconst v => cases h; obtain ⟨rfl, rfl⟩ := he; exact lv_lconst hx hb hd rfl (kk _ hl)
  case ldc2_w v => cases h; obtain ⟨rfl, he⟩ := he; exact lv_ldc2 hx hb hown (hts _ (ra_cstL hM.1 he)) hd (kk _ hl)
  case iload k => split at h <;> first | (cases h; done) | (rename_i hn; cases h; obtain ⟨rfl, he⟩ := he; exact lv_iload hx hb hd (hl.2.2 _ _ hn (fun q => by cases q)) (kk _ hl))
  case iload_n k => split at h <;> first | (cases h; done) | (rename_i hn; cases h; obtain ⟨rfl, he⟩ := he; exact lv_iload_n hx hb hd rfl (hl.2.2 _ _ hn (fun q => by cases q)) (kk _ hl))
  case aload k => split at h <;> first | (cases h; done) | (rename_i hn; cases h; obtain ⟨rfl, he⟩ := he; exact lv_aload hx hb hd (hl.2.2 _ _ hn (fun q => by cases q)) (kk _ hl))
  case aload_n k => split at h <;> first | (cases h; done) | (rename_i hn; cases h; obtain ⟨rfl, he⟩ := he; exact lv_aload_n hx hb hd rfl (hl.2.2 _ _ hn (fun q => by cases q)) (kk _ hl))
  case lload k =>
    split at h
    · rename_i hn
      cases hfr : ra_fr lo (k + 1) with
      | false => rw [hfr] at h; cases h
      | true => rw [hfr] at h; cases h; obtain ⟨rfl, he⟩ := he; exact lv_lload hx hb hd (hl.2.2 _ _ hn (fun _ => hfr)) (kk _ hl)
    · cases h
  case lload_n k =>
    split at h
    · rename_i hn
      cases hfr : ra_fr lo (k + 1) with
      | false => rw [hfr] at h; cases h
      | true => rw [hfr] at h; cases h; obtain ⟨rfl, he⟩ := he; exact lv_lload_n hx hb hd rfl (hl.2.2 _ _ hn (fun _ => hfr)) (kk _ hl)
    · cases h
  case istore k => split at h <;> first | (cases h; done) | (cases h; obtain ⟨rfl, he⟩ := he; exact lv_istore hx hb hd (ra_lst_has hl) he rfl (fun ls' h' => kk ls' (ra_ok_st rfl h')))
  case istore_n k => split at h <;> first | (cases h; done) | (cases h; obtain ⟨rfl, he⟩ := he; exact lv_istore_n hx hb hd rfl (ra_lst_has hl) he rfl (fun ls' h' => kk ls' (ra_ok_st rfl h')))
  case astore k => split at h <;> first | (cases h; done) | (cases h; obtain ⟨rfl, he⟩ := he; exact lv_astore hx hb hd (ra_lst_has hl) he rfl (fun ls' h' => kk ls' (ra_ok_st rfl h')))
  case astore_n k => split at h <;> first | (cases h; done) | (cases h; obtain ⟨rfl, he⟩ := he; exact lv_astore_n hx hb hd rfl (ra_lst_has hl) he rfl (fun ls' h' => kk ls' (ra_ok_st rfl h')))
  case lstore k => split at h <;> first | (cases h; done) | (cases h; obtain ⟨rfl, he⟩ := he; exact lv_lstore hx hb hd (ra_lst_has hl) he rfl (fun ls' h' => kk ls' (ra_ok_st2 h')))
  case lstore_n k => split at h <;> first | (cases h; done) | (cases h; obtain ⟨rfl, he⟩ := he; exact lv_lstore_n hx hb hd rfl (ra_lst_has hl) he rfl (fun ls' h' => kk ls' (ra_ok_st2 h')))
  case iinc k v =>
    split at h
    · rename_i z hn
      cases h
      obtain ⟨rfl, he, rfl⟩ := he
      obtain ⟨q, hq⟩ := List.getElem?_of_mem (ra_lst_mem (ad := ad) hn (fun q => by cases q))
      exact lv_iinc hx hb hd (ra_lst_has hl) hq rfl he rfl (fun ls' h' => kk ls' (ra_ok_st rfl h'))
    · cases h
  case iadd => subst he; split at h <;> first | (cases h; done) | (cases h; exact lv_iadd hx hb hd (kk _ hl))
  case isub => subst he; split at h <;> first | (cases h; done) | (cases h; exact lv_isub hx hb hd (kk _ hl))
  case imul => subst he; split at h <;> first | (cases h; done) | (cases h; exact lv_imul hx hb hd (kk _ hl))
  case ineg => subst he; split at h <;> first | (cases h; done) | (cases h; exact lv_ineg hx hb hd (kk _ hl))
  case ishl => subst he; split at h <;> first | (cases h; done) | (cases h; exact lv_ishl hx hb hd (kk _ hl))
  case ishr => subst he; split at h <;> first | (cases h; done) | (cases h; exact lv_ishr hx hb hd (kk _ hl))
  case iushr => subst he; split at h <;> first | (cases h; done) | (cases h; exact lv_iushr hx hb hd rfl (kk _ hl))
  case iand => subst he; split at h <;> first | (cases h; done) | (cases h; exact lv_iand hx hb hd (kk _ hl))
  case ior => subst he; split at h <;> first | (cases h; done) | (cases h; exact lv_ior hx hb hd (kk _ hl))
  case ixor => subst he; split at h <;> first | (cases h; done) | (cases h; exact lv_ixor hx hb hd (kk _ hl))
  case ladd => subst he; split at h <;> first | (cases h; done) | (cases h; exact lv_ladd hx hb hd (kk _ hl))
  case lsub => subst he; split at h <;> first | (cases h; done) | (cases h; exact lv_lsub hx hb hd (kk _ hl))
  case lmul => subst he; split at h <;> first | (cases h; done) | (cases h; exact lv_lmul hx hb hd (kk _ hl))
  case lneg => subst he; split at h <;> first | (cases h; done) | (cases h; exact lv_lneg hx hb hd (kk _ hl))
  case land => subst he; split at h <;> first | (cases h; done) | (cases h; exact lv_land hx hb hd (kk _ hl))
  case lor => subst he; split at h <;> first | (cases h; done) | (cases h; exact lv_lor hx hb hd (kk _ hl))
  case lxor => subst he; split at h <;> first | (cases h; done) | (cases h; exact lv_lxor hx hb hd (kk _ hl))
  case lshr => subst he; split at h <;> first | (cases h; done) | (cases h; exact lv_lshr hx hb hd rfl (kk _ hl))
  case lcmp => subst he; split at h <;> first | (cases h; done) | (cases h; exact W.lcmp hx hb hd (kk _ hl))
  case i2l => subst he; split at h <;> first | (cases h; done) | (cases h; exact lv_i2l hx hb hd rfl (kk _ hl))
  case l2i => subst he; split at h <;> first | (cases h; done) | (cases h; exact lv_l2i hx hb hd rfl (kk _ hl))
  case dup => subst he; split at h <;> first | (cases h; done) | (cases h; exact lv_dup hx hb hd rfl (kk _ hl))
  case dup2 => subst he; split at h <;> first | (cases h; done) | (cases h; exact lv_dup2_11 hx hb hd rfl rfl (kk _ hl))
  case pop => subst he; split at h <;> first | (cases h; done) | (cases h; exact lv_pop hx hb hd rfl (kk _ hl))
end RAS
