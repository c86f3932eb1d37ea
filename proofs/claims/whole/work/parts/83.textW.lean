-- ===== text on the machine: the two scores change places, so do their addresses =====
def rz_ap (ad : Nat → Nat) : Nat → Nat := fun i => ad (rz_wap i)
def rz_sm : ra_H → ra_H
  | .inl q => .inl q
  | .inr o => .inr (o.1, o.2.map (fun fk => match fk with | .inl b => .inl b | .inr j => .inr (rz_wap j)))
theorem rz_lay_sw : (List.range ra_nc).all (fun i => Nat.beq i 0 || decide (ra_lay (rz_wap i) = (ra_lay i).map rz_sm)) = true := by decide +kernel
theorem rz_wap_lt : ∀ {i : Nat}, i < ra_nc → rz_wap i < ra_nc := by
  intro i h
  have h : i < 116 := h
  show rz_wap i < 116
  unfold rz_wap
  split
  · omega
  · split <;> omega
theorem rz_wap_inj {i j : Nat} (h : rz_wap i = rz_wap j) : i = j := by
  unfold rz_wap at h
  split at h <;> split at h <;> (try split at h) <;> (try split at h) <;> omega
theorem rz_wap_0 {i : Nat} (h : rz_wap i = 0) : i = 0 := by
  unfold rz_wap at h
  split at h
  · omega
  · split at h <;> omega
theorem rz_ap_inj {ad : Nat → Nat} (hinj : ∀ i j, i < ra_nc → j < ra_nc → ad i = ad j → i = j) : ∀ i j, i < ra_nc → j < ra_nc → rz_ap ad i = rz_ap ad j → i = j := fun i j hi hj h => rz_wap_inj (hinj _ _ (rz_wap_lt hi) (rz_wap_lt hj) h)
theorem rz_ap_A {ad : Nat → Nat} (q : Nat) (h : ra_A (rz_ap ad) q) : ra_A ad q := by
  obtain ⟨i, hi, e⟩ := h
  exact ⟨rz_wap i, rz_wap_lt hi, e⟩
theorem rz_ce_sw {ad : Nat → Nat} {cA : Nat → ClassId} (τ : ra_S) (i : Nat) (sh : ra_H) : ra_ce (rz_ap ad) cA (rz_pm τ) i sh = ra_ce ad cA τ (rz_wap i) (rz_sm sh) := by
  cases sh with
  | inl q => rfl
  | inr o =>
    unfold ra_ce rz_sm
    dsimp only
    congr 2
    apply List.ext_getElem?
    intro k
    rw [List.getElem?_mapIdx, List.getElem?_mapIdx, List.getElem?_map]
    cases o.2[k]? with
    | none => rfl
    | some fk =>
      cases fk with
      | inl b => cases b <;> rfl
      | inr j => rfl
/-- the world behind the change, out of the one in which cell 0 was written twice -/
theorem rz_w_sw {D : va_G} {ad : Nat → Nat} {cA : Nat → ClassId} (hinj : ∀ i j, i < ra_nc → j < ra_nc → ad i = ad j → i = j) {τ : ra_S} {H : Heap} {q0 : Nat} {fs : List Value} (h0 : (ra_w ra_lay ad cA τ)[q0]? = some (ad 0, .inr (11, fs))) (hfs : fs = [.ref (ad 1), .ref (ad 10), .ref (ad 29), .ref (ad 48), .ref (ad 56), .ref (ad 62), .ref (ad 72), .ref (ad 77), .ref (ad 82), .ref (ad 85)])
    (hP : va_P D vwCl (((ra_w ra_lay ad cA τ).set q0 (ad 0, .inr (11, fs.set 1 (.ref (ad 29))))).set q0 (ad 0, .inr (11, (fs.set 1 (.ref (ad 29))).set 2 (.ref (ad 10))))) H) : va_P D vwCl (ra_w ra_lay (rz_ap ad) cA (rz_pm τ)) H := by
  intro k q hk
  obtain ⟨i, hi, h1⟩ := List.mem_filterMap.mp (List.mem_of_getElem? hk)
  have hi := List.mem_range.mp hi
  have hq0 : q0 < (ra_w ra_lay ad cA τ).length := (List.getElem?_eq_some_iff.mp h0).1
  unfold ra_wg at h1
  cases hl : ra_lay i with
  | none => rw [hl] at h1; cases h1
  | some sh =>
    rw [hl] at h1
    injection h1 with h1
    subst h1
    by_cases z : i = 0
    · subst z
      have hl : some ra_c0 = some sh := hl
      injection hl with hl
      subst hl
      refine hP q0 _ ?_
      rw [List.getElem?_set_self (by rw [List.length_set]; exact hq0), hfs]
      rfl
    · have hc := List.all_eq_true.mp rz_lay_sw i (List.mem_range.mpr hi)
      rw [Bool.or_eq_true] at hc
      rcases hc with hc | hc
      · exact absurd (Nat.eq_of_beq_eq_true hc) z
      · have hc := of_decide_eq_true hc
        rw [hl] at hc
        have hc : ra_lay (rz_wap i) = some (rz_sm sh) := hc
        obtain ⟨q1, w1, -⟩ := ra_w_cell (ad := ad) (cA := cA) (rz_wap_lt hi) hc τ
        have ne : q0 ≠ q1 := fun q => by
          rw [← q, h0] at w1
          injection w1 with w1
          injection w1 with w1 w2
          exact z (rz_wap_0 (hinj 0 _ (by decide) (rz_wap_lt hi) w1).symm)
        refine hP q1 _ ?_
        rw [List.getElem?_set_ne ne, List.getElem?_set_ne ne, w1]
        show some (ad (rz_wap i), ra_ce ad cA τ (rz_wap i) (rz_sm sh)) = some (ad (rz_wap i), ra_ce (rz_ap ad) cA (rz_pm τ) i sh)
        rw [rz_ce_sw]
def rz_QT (D : va_G) (ad ad' : Nat → Nat) (cA : Nat → ClassId) (v : Int32) (σ : ra_S) : Array Value → State → Outcome → State → Prop := fun _ st oc t => (oc = .returned (some (.int v)) ∧ va_P D vwCl (ra_w ra_lay ad' cA σ) t.heap) ∧ va_F (ra_A ad) st t
/-- how a text goes on the class's side -/
def rz_Tx (n v : Int32) (ad ad' : Nat → Nat) (σ σ1 : ra_S) : Prop := (ad' = ad ∧ ra_D (ra_lay, none, 61, ra_m78) 0 [some (.ref 0), some (.int n), none, none] [] σ = ra_I v σ1) ∨
  (ad' = rz_ap ad ∧ ∃ (x : Int32) (τ : ra_S), ra_D (ra_lay, none, 61, ra_m78) 0 [some (.ref 0), some (.int n), none, none] [] σ = some (.inr ([some (.ref 0), some (.int n), some (.int x), some (.ref 10)], [.ref 29, .ref 0]), τ) ∧ ∀ o1 o2 o3, ra_D (ra_lay, none, 99999, ra_m78) 69 [some (.ref 0), o1, o2, o3] [] (rz_pm τ) = ra_I v σ1)
theorem rz_t_put {M : ra_M} (hM : ra_mok M) {pc idx a b : Nat} (hf : M.2.2.2.2.2.2 pc = some (.putfield idx, 3, a, b, 0, 0)) : decode M.2.2.1 pc = .ok (.putfield idx, 3) ∧ ra_fin a b = false ∧ ∃ q : vw_C, vwCl[a]? = some q ∧ b < q.2.2 ∧ Cond.fieldLink M.2.1.cls idx (q.2.1 b).1 (q.2.1 b).2.1 (q.2.1 b).2.2.1 ∈ ra_tb := by
  have hE := hM.2.2.2.2 pc _ hf
  unfold ra_eok at hE
  simp only [Bool.and_eq_true, decide_eq_true_eq] at hE
  obtain ⟨hd, -, he, hfin⟩ := hE
  obtain ⟨q, hq, hbq, hlk⟩ := ra_fld hM.1 (idx := idx) (a := a) (b := b) he
  refine ⟨hd, ?_, q, hq, hbq, hlk⟩
  simpa only [Bool.not_eq_true'] using hfin
set_option maxHeartbeats 4000000 in
theorem rz_textM {l : Launch} {D : va_G} {ad ad' : Nat → Nat} {cA : Nat → ClassId} (hinj : ∀ i j, i < ra_nc → j < ra_nc → ad i = ad j → i = j) {n v : Int32} {σ σ1 : ra_S} (hT : rz_Tx n v ad ad' σ σ1) :
    Met l (ra_mt 78).2.1 (ra_ws (ra_mt 78)) (ra_rm (ra_mt 78)) (va_Pc ([.ref 0, .int n].map (ra_cv ad)) (ra_B ra_lay D ad cA σ)) (rz_QT D ad ad' cA v σ1) 0 0 (ra_A ad) := by
  have hco := ra_call_ok 78
  refine ra_ofW (cc := (ra_mt 78).2.2.1) (maxL := (ra_mt 78).2.2.2.1.1) (ret := (ra_mt 78).2.2.2.1.2) hco.1.2.1 rfl ?_
  intro p e s m args below meth c s₁ B hml hv
  obtain ⟨rfl, hP, hK, hN⟩ := hv
  have hx := B.exec
  have hb := B.bytes
  have hr := B.returns
  have hts0 := atoms_spec (ws := ra_ws (ra_mt 78)) B.pre
  have hts : ∀ w ∈ ra_tb, w.before (([.ref 0, .int n] : List Value).map (ra_cv ad)).toArray s = true := fun w hw => hts0 w (List.mem_cons_of_mem _ hw)
  have hown : s.vm.findClass (ra_mt 78).2.1.cls = some m.cls := findClass_of_methodNamed B.named
  have hlocks := B.notSynchronized
  have hcat' : (lg_sl (([.ref 0, .int n] : List Value).map (ra_cv ad))).length ≤ (ra_mt 78).2.2.2.1.1 := by rw [ra_sl_len, ra_cv_cats]; exact (by decide : (2 : Nat) ≤ 4)
  have hl := lv_entry (([.ref 0, .int n] : List Value).map (ra_cv ad)) hcat'
  rw [lg_entry_eq]
  generalize (lg_sl (([.ref 0, .int n] : List Value).map (ra_cv ad)) ++ List.replicate ((ra_mt 78).2.2.2.1.1 - (lg_sl (([.ref 0, .int n] : List Value).map (ra_cv ad))).length) Slot.unset).toArray = ls at hl ⊢
  have hok : ra_ok ad 4 [some (.ref 0), some (.int n), none, none] ls := ⟨hl.1, hl.2.1, fun i w hw _ => by
    have := hl.2.2 _ (ra_lo0_mem (ad := ad) [.ref 0, .int n] 4 0 i w hw)
    rw [Nat.zero_add] at this
    exact this⟩
  have hF : ra_Fx p s m (([.ref 0, .int n] : List Value).map (ra_cv ad)).toArray c (ra_mt 78) := ⟨hx, hb, hml, hown, hts, hco.1⟩
  have hDw : ∀ τ : ra_S, va_D (ra_A ad) (ra_w ra_lay ad cA τ) := fun τ => ra_w_D hinj (fun i hi => ⟨i, hi, rfl⟩)
  rcases hT with ⟨rfl, hD⟩ | ⟨rfl, x, τ, hD, hD2⟩
  · obtain ⟨k, hk⟩ := ra_D_some.mp hD
    refine ra_walk (lay := ra_lay) (κ := (ra_lay, none, 61, ra_mt 78)) (A0 := ra_A ad') (H0 := s.heap) (cells := 0) (slots := 0) hinj (fun q h => h) rfl (fun _ _ h => h) hF hK hN ⟨Nat.le_refl _, Nat.le_refl _⟩ ⟨Nat.le_refl _, Nat.le_refl _⟩ (fun xs h => by cases h) (.inl (some (.int v))) σ1 ?_ ?_ k (fun k _ => ra_met (fun _ _ h => h) hinj k) 0 _ [] σ s.heap [] ls hk hP va_S.rf hok
    · intro v' hv' i H' locs' pc' ls' hP' hS' hd' hri
      cases hv'
      obtain ⟨rfl, hrt | ⟨hrt, hz⟩⟩ := hri
      · exact W.iret hx hb (hr.trans hrt) (fun t ht hW => ⟨⟨rfl, by rw [ht]; exact hP'⟩, hS'.F ht⟩) hS'.2.2 hd'
      · cases hrt
    · intro lo' st' h
      cases h
  · obtain ⟨k, hk⟩ := ra_D_some.mp hD
    refine ra_walk (lay := ra_lay) (κ := (ra_lay, none, 61, ra_mt 78)) (A0 := ra_A ad) (H0 := s.heap) (cells := 0) (slots := 0) hinj (fun q h => h) rfl (fun _ _ h => h) hF hK hN ⟨Nat.le_refl _, Nat.le_refl _⟩ ⟨Nat.le_refl _, Nat.le_refl _⟩ (fun xs h => by cases h) _ τ (fun v' hv' => by cases hv') ?_ k (fun k _ => ra_met (fun _ _ h => h) hinj k) 0 _ [] σ s.heap [] ls hk hP va_S.rf hok
    intro lo' st' hst H1 locs1 ls1 hP1 hS1 hok1
    cases hst
    obtain ⟨q0, w1, -⟩ := ra_w_cell (lay := ra_lay) (ad := ad) (cA := cA) (i := 0) (sh := ra_c0) (by decide) rfl τ
    obtain ⟨fs, hfs⟩ : ∃ fs : List Value, fs = [.ref (ad 1), .ref (ad 10), .ref (ad 29), .ref (ad 48), .ref (ad 56), .ref (ad 62), .ref (ad 72), .ref (ad 77), .ref (ad 82), .ref (ad 85)] := ⟨_, rfl⟩
    have w1 : (ra_w ra_lay ad cA τ)[q0]? = some (ad 0, .inr (11, fs)) := by rw [hfs]; exact w1
    have hq0 : q0 < (ra_w ra_lay ad cA τ).length := (List.getElem?_eq_some_iff.mp w1).1
    obtain ⟨hd1, hfin1, q, hq, hbq1, hlk1⟩ := rz_t_put (M := ra_mt 78) hco.1 (pc := 61) (idx := 21) (a := 11) (b := 1) rfl
    obtain ⟨hd2, hfin2, q', hq', hbq2, hlk2⟩ := rz_t_put (M := ra_mt 78) hco.1 (pc := 66) (idx := 25) (a := 11) (b := 2) rfl
    have hqq : q' = q := Option.some.inj (hq'.symm.trans hq)
    subst hqq
    obtain ⟨ty0, hty, hnm⟩ := ra_tys 11 q' hq
    unfold ra_fin at hfin1 hfin2
    rw [hq] at hfin1 hfin2
    have hqe : q' = (RX11, TX11, 10) := Option.some.inj (hq.symm.trans (show vwCl[11]? = some (RX11, TX11, 10) from rfl))
    subst hqe
    refine va_put (D := D) (ci := 11) (A := ra_A ad) (H0 := s.heap) (v := .ref (ad 29)) hx hb hts (ra_lays 11 _ hq) ty0 hty hnm hown hK hP1 (hDw τ) hS1 q0 w1 hq 1 hbq1 (hts _ hlk1) (fun _ h9 => h9) hfin1 (ty := .object "StickStrings$Score") (by decide +kernel) rfl rfl (by rw [hfs]; exact (by decide : (1 : Nat) < 10)) hd1 (fun H2 locs2 g1 g2 g3 => ?_)
    refine ra_sx_W (ad := ad) hF (pc := 64) (x := (.aload_n 0, 1, 0, 0, 0, 0)) (hco.1.2.2.2.2 64 _ rfl) (lo := [some (.ref 0), some (.int n), some (.int x), some (.ref 10)]) (lo' := [some (.ref 0), some (.int n), some (.int x), some (.ref 10)]) (st := []) (st' := [.ref 0]) rfl hok1 (fun ls2 hok2 => ?_)
    refine ra_sx_W (ad := ad) hF (pc := 65) (x := (.aload_n 3, 1, 0, 0, 0, 0)) (hco.1.2.2.2.2 65 _ rfl) (lo := [some (.ref 0), some (.int n), some (.int x), some (.ref 10)]) (lo' := [some (.ref 0), some (.int n), some (.int x), some (.ref 10)]) (st := [.ref 0]) (st' := [.ref 10, .ref 0]) rfl hok2 (fun ls3 hok3 => ?_)
    refine va_put (D := D) (ci := 11) (A := ra_A ad) (H0 := s.heap) (v := .ref (ad 10)) (fs := fs.set 1 (.ref (ad 29))) hx hb hts (ra_lays 11 _ hq) ty0 hty hnm hown hK g1 g2 g3 q0 (by rw [List.getElem?_set_self hq0]) hq 2 hbq2 (hts _ hlk2) (fun _ h9 => h9) hfin2 (ty := .object "StickStrings$Score") (by decide +kernel) rfl rfl (by rw [hfs]; exact (by decide : (2 : Nat) < 10)) hd2 (fun H3 locs3 u1 u2 u3 => ?_)
    obtain ⟨k2, hk2⟩ := ra_D_some.mp (hD2 none none none)
    have hok4 : ra_ok (rz_ap ad) 4 [some (.ref 0), none, none, none] ls3 := ⟨hok3.1, hok3.2.1, fun i w hw hc => by
      match i, hw with
      | 0, hw => cases hw; exact hok3.2.2 0 (.ref 0) rfl (fun q => by cases q)
      | 1, hw => cases hw
      | 2, hw => cases hw
      | 3, hw => cases hw
      | i + 4, hw => cases hw⟩
    refine ra_walk (lay := ra_lay) (κ := (ra_lay, none, 99999, ra_mt 78)) (A0 := ra_A ad) (H0 := s.heap) (cells := 0) (slots := 0) (rz_ap_inj hinj) rz_ap_A rfl (fun _ _ h => h) hF hK hN ⟨Nat.le_refl _, Nat.le_refl _⟩ ⟨Nat.le_refl _, Nat.le_refl _⟩ (fun xs h => by cases h) (.inl (some (.int v))) σ1 ?_ ?_ k2 (fun k _ => ra_met (fun _ _ h => h) (rz_ap_inj hinj) k) 69 _ [] (rz_pm τ) H3 locs3 ls3 hk2 (rz_w_sw hinj w1 hfs u1) u3 hok4
    · intro v' hv' i H' locs' pc' ls' hP' hS' hd' hri
      cases hv'
      obtain ⟨rfl, hrt | ⟨hrt, hz⟩⟩ := hri
      · exact W.iret hx hb (hr.trans hrt) (fun t ht hW => ⟨⟨rfl, by rw [ht]; exact hP'⟩, hS'.F ht⟩) hS'.2.2 hd'
      · cases hrt
    · intro lo' st' h
      cases h
