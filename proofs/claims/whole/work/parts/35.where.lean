-- ===== where =====
def rz_bst (F : Nat → Int) : Nat → Nat
  | 0 => 0
  | k + 1 => if F (k + 1) < F (rz_bst F k) then k + 1 else rz_bst F k
theorem rz_bst_le (F : Nat → Int) : ∀ k, rz_bst F k ≤ k
  | 0 => Nat.le_refl _
  | k + 1 => by
    have := rz_bst_le F k
    rw [rz_bst]
    split <;> omega
theorem rz_bst_st (F : Nat → Int) (m : Nat) : (if F m < F (rz_bst F (m - 1)) then m else rz_bst F (m - 1)) = rz_bst F m := by
  cases m with
  | zero => show (if F 0 < F 0 then 0 else 0) = 0; split <;> rfl
  | succ m => rfl
def rz_wres (F : Nat → Int) (w : Int32) (B : Nat) : Int64 := if w = 0 then (nI (B % 41)).toInt64 else if w = 1 then (nI (B / 41)).toInt64 else rz_L (F B)
theorem rz_in41 (m : Nat) (h : m ≤ 40) : rz_in (nI m) 0 40 := by
  unfold rz_in
  rw [nI_toInt (by omega)]; omega
theorem rz_c_where {e : Nat → Nat → Int} {bg : Nat → Int} {np nb : Nat} {spk : Nat → Int} {X Y : Nat → Int32} {τ0 : ra_S} (h : rz_HC e bg np nb spk X Y τ0) {a b : Nat} (hab : a ≤ b) (hb : b < nb) (w : Int32) (F : Nat → Int) (hF : ∀ m, F m = rz_tgv e spk X Y np (nI (m % 41)) (nI (m / 41)) a b) (hF2 : ∀ m, m ≤ 1680 → 0 ≤ F m ∧ F m ≤ 100000000000) : ∀ d m, m + d = 1681 → 0 < d → ∀ (τ : ra_S) (o10 o11 : Option Value), (∀ c, c ≠ 76 → τ.1 c = τ0.1 c) → ∃ υ : ra_S, ra_D (ra_lay, none, 99999, ra_m98) 66 [some (.ref 0), some (.int (nI a)), some (.int (nI b)), some (.int w), some (.int (nI (rz_bst F (m - 1) % 41))), some (.int (nI (rz_bst F (m - 1) / 41))), some (.long (rz_L (F (rz_bst F (m - 1))))), none, some (.int (nI (m / 41))), some (.int (nI (m % 41))), o10, o11] [] τ = ra_J (rz_wres F w (rz_bst F 1680)) υ ∧ ∀ c, c ≠ 76 → υ.1 c = τ0.1 c := by
  intro d
  induction d with
  | zero => intro m hm h0; omega
  | succ d ih =>
    intro m hm _ τ o10 o11 fr
    have hB := rz_bst_le F (m - 1)
    have nxt : ∀ (τ1 : ra_S) (o10 o11 : Option Value), (∀ c, c ≠ 76 → τ1.1 c = τ0.1 c) → ∃ υ : ra_S, ra_D (ra_lay, none, 99999, ra_m98) 66 [some (.ref 0), some (.int (nI a)), some (.int (nI b)), some (.int w), some (.int (nI (rz_bst F m % 41))), some (.int (nI (rz_bst F m / 41))), some (.long (rz_L (F (rz_bst F m)))), none, some (.int (nI (m / 41))), some (.int (nI (m % 41 + 1))), o10, o11] [] τ1 = ra_J (rz_wres F w (rz_bst F 1680)) υ ∧ ∀ c, c ≠ 76 → υ.1 c = τ0.1 c := by
      intro τ1 o10 o11 f1
      by_cases z : m % 41 = 40
      · rw [e_98_66, z, if_pos (by decide), e_98_56, nI_1]
        by_cases y : m = 1680
        · subst y
          rw [if_pos (by decide)]
          refine ⟨τ1, ?_, f1⟩
          unfold rz_wres
          (repeat' split) <;> rfl
        · rw [if_neg (show ¬ (40 : Int32) < nI (m / 41 + 1) from nI_nlt (a := 40) (by omega) (by omega))]
          have := ih (m + 1) (by omega) (by omega) τ1 o10 o11 f1
          rw [show (m + 1) / 41 = m / 41 + 1 by omega, show (m + 1) % 41 = 0 by omega, show m + 1 - 1 = m by omega] at this
          exact this
      · have := ih (m + 1) (by omega) (by omega) τ1 o10 o11 f1
        rw [show (m + 1) / 41 = m / 41 by omega, show (m + 1) % 41 = m % 41 + 1 by omega, show m + 1 - 1 = m by omega] at this
        exact this
    obtain ⟨υ, e1, g1, g2⟩ := rz_c_tg h fr (x := nI (m % 41)) (y := nI (m / 41)) (rz_in41 _ (by omega)) (rz_in41 _ (by omega)) hab hb
    have b1 := hF2 m (by omega)
    have b2 := hF2 (rz_bst F (m - 1)) (by omega)
    rw [e_98_66, if_neg (show ¬ (40 : Int32) < nI (m % 41) from nI_nlt (a := 40) (by omega) (by omega)), e1, ra_kJ, ← hF m, nI_1]
    have st := rz_bst_st F m
    by_cases y : F m < F (rz_bst F (m - 1))
    · rw [if_pos y] at st
      rw [if_pos ((rz_lcn _ _).mpr ((rz_L_lt (by omega) (by omega) (by omega) (by omega)).mpr y))]
      have := nxt υ (some (.long (rz_L (F m)))) none g1
      rw [← st] at this
      exact this
    · rw [if_neg y] at st
      rw [if_neg (fun x => y ((rz_L_lt (by omega) (by omega) (by omega) (by omega)).mp ((rz_lcn _ _).mp x)))]
      have := nxt υ (some (.long (rz_L (F m)))) none g1
      rw [← st] at this
      exact this
theorem rz_m_where {e : Nat → Nat → Int} {bg : Nat → Int} {np nb : Nat} {spk : Nat → Int} {X Y : Nat → Int32} {τ0 : ra_S} (h : rz_HM e bg np nb spk X Y τ0) {a b : Nat} (hab : a ≤ b) (hb : b < nb) (w : Int32) (F : Nat → Int) (hF : ∀ m, F m = rz_tgv e spk X Y np (nI (m % 41)) (nI (m / 41)) a b) (hF2 : ∀ m, m ≤ 1680 → 0 ≤ F m ∧ F m ≤ 100000000000) : ∀ d m, m + d = 1681 → 0 < d → ∀ (τ : ra_S) (o10 o11 : Option Value), (∀ c, c ≠ 104 → τ.1 c = τ0.1 c) → ∀ (v4 : Int64) (v6 v7 : Int32), (m = 0 ∧ v4 = -1) ∨ (m ≠ 0 ∧ v4 = rz_L (F (rz_bst F (m - 1))) ∧ v6 = nI (rz_bst F (m - 1) % 41) ∧ v7 = nI (rz_bst F (m - 1) / 41)) → ∃ υ : ra_S, ra_D (ra_lay, none, 99999, ra_m209) 55 [some (.ref 86), some (.int (nI a)), some (.int (nI b)), some (.int w), some (.long v4), none, some (.int v6), some (.int v7), some (.int (nI (m / 41))), some (.int (nI (m % 41))), o10, o11] [] τ = ra_J (rz_wres F w (rz_bst F 1680)) υ ∧ ∀ c, c ≠ 104 → υ.1 c = τ0.1 c := by
  intro d
  induction d with
  | zero => intro m hm h0; omega
  | succ d ih =>
    intro m hm _ τ o10 o11 fr v4 v6 v7 hv
    have hB := rz_bst_le F (m - 1)
    have nxt : ∀ (τ1 : ra_S) (o10 o11 : Option Value), (∀ c, c ≠ 104 → τ1.1 c = τ0.1 c) → ∃ υ : ra_S, ra_D (ra_lay, none, 99999, ra_m209) 55 [some (.ref 86), some (.int (nI a)), some (.int (nI b)), some (.int w), some (.long (rz_L (F (rz_bst F m)))), none, some (.int (nI (rz_bst F m % 41))), some (.int (nI (rz_bst F m / 41))), some (.int (nI (m / 41))), some (.int (nI (m % 41 + 1))), o10, o11] [] τ1 = ra_J (rz_wres F w (rz_bst F 1680)) υ ∧ ∀ c, c ≠ 104 → υ.1 c = τ0.1 c := by
      intro τ1 o10 o11 f1
      by_cases z : m % 41 = 40
      · rw [e_209_55, z, if_neg (by decide), e_209_45, nI_1]
        by_cases y : m = 1680
        · subst y
          rw [if_neg (by decide)]
          refine ⟨τ1, ?_, f1⟩
          unfold rz_wres
          (repeat' split) <;> rfl
        · rw [if_pos (show nI (m / 41 + 1) < (41 : Int32) from nI_lt (b := 41) (by omega) (by omega))]
          have := ih (m + 1) (by omega) (by omega) τ1 o10 o11 f1 _ _ _ (Or.inr ⟨by omega, rfl, rfl, rfl⟩)
          rw [show (m + 1) / 41 = m / 41 + 1 by omega, show (m + 1) % 41 = 0 by omega, show m + 1 - 1 = m by omega] at this
          exact this
      · have := ih (m + 1) (by omega) (by omega) τ1 o10 o11 f1 _ _ _ (Or.inr ⟨by omega, rfl, rfl, rfl⟩)
        rw [show (m + 1) / 41 = m / 41 by omega, show (m + 1) % 41 = m % 41 + 1 by omega, show m + 1 - 1 = m by omega] at this
        exact this
    obtain ⟨υ, e1, g1, g2⟩ := rz_m_tg h fr (x := nI (m % 41)) (y := nI (m / 41)) (rz_in41 _ (by omega)) (rz_in41 _ (by omega)) hab hb
    have b1 := hF2 m (by omega)
    have b2 := hF2 (rz_bst F (m - 1)) (by omega)
    rw [e_209_55, if_pos (show nI (m % 41) < (41 : Int32) from nI_lt (b := 41) (by omega) (by omega)), e1, ra_kJ, ← hF m, nI_1]
    have st := rz_bst_st F m
    rcases hv with ⟨rfl, rfl⟩ | ⟨hm0, rfl, rfl, rfl⟩
    · rw [if_pos (by decide), e_209_92]
      exact nxt υ _ _ g1
    · rw [if_neg (fun x => by have := (rz_L0 (a := F (rz_bst F (m - 1))) (by omega) (by omega)).mp ((rz_lcn _ _).mp x); omega)]
      by_cases y : F m < F (rz_bst F (m - 1))
      · rw [if_pos y] at st
        rw [if_pos ((rz_lcn _ _).mpr ((rz_L_lt (by omega) (by omega) (by omega) (by omega)).mpr y)), e_209_92, nI_1]
        have := nxt υ (some (.long (rz_L (F m)))) none g1
        rw [← st] at this
        exact this
      · rw [if_neg y] at st
        rw [if_neg (fun x => y ((rz_L_lt (by omega) (by omega) (by omega) (by omega)).mp ((rz_lcn _ _).mp x)))]
        have := nxt υ (some (.long (rz_L (F m)))) none g1
        rw [← st] at this
        exact this
theorem rz_where {σ : ra_S} (h : rz_R σ) (a b w : Int32) : rz_OJ 98 209 [.int a, .int b, .int w] σ := by
  obtain ⟨np, nb, nl, nw, len, hB⟩ := rz_base_of h
  have f0 := rz_ft.rf σ
  have f0' := f0.u2 (x := 0)
  have c3 := hB.1.1.2.2
  have c6 := hB.1.2.1.2.2
  by_cases v2 : 0 ≤ a.toInt ∧ a.toInt ≤ b.toInt ∧ b.toInt < nb
  · by_cases v3 : 0 ≤ w.toInt ∧ w.toInt ≤ 2
    · obtain ⟨υ, e1, f1, t1, ca⟩ := rz_asC hB f0
      obtain ⟨b', hb, rfl⟩ := rz_nat (n := nb) (by omega) (show 0 ≤ b.toInt ∧ b.toInt < nb by omega)
      obtain ⟨a', ha, rfl⟩ := rz_nat (n := nb) (by omega) (show 0 ≤ a.toInt ∧ a.toInt < nb by omega)
      have hab : a' ≤ b' := by rw [nI_toInt (by omega), nI_toInt (by omega)] at v2; omega
      have hc := rz_HC_mk hB f1 t1 ca
      obtain ⟨F, hF⟩ : ∃ F : Nat → Int, ∀ m, F m = rz_tgv (rz_e (rz_EP σ len np nw) np) (rz_spk σ) (rz_X0 σ) (rz_Y0 σ) np (nI (m % 41)) (nI (m / 41)) a' b' := ⟨_, fun _ => rfl⟩
      have hF2 : ∀ m, m ≤ 1680 → 0 ≤ F m ∧ F m ≤ 100000000000 := fun m hm => by
        rw [hF m]
        have := rz_tg_in (g := fun n p => rz_e (rz_EP σ len np nw) np n p + rz_lt (rz_spk σ) (rz_X0 σ) (rz_Y0 σ) (nI (m % 41)) (nI (m / 41)) p) (np := np) (a := a') (b' + 1 - a') (fun n q hn hq => by
          have i1 := rz_e_in (rz_EP σ len np nw) np n q
          obtain ⟨-, -, k3, k4, -, k6, k7⟩ := hc.2 q hq
          have i2 := rz_lt_in (np := np) (x := nI (m % 41)) (y := nI (m / 41)) (rz_in41 _ (by omega)) (rz_in41 _ (by omega)) (p := q) ⟨k3, k4, k6, k7⟩
          omega)
        have h3 := this.2
        refine ⟨this.1, Int.le_trans h3 ?_⟩
        omega
      obtain ⟨υ1, e3, g1, g2⟩ := rz_c_tg hc (fun _ _ => rfl) (x := nI 0) (y := nI 0) (rz_in41 0 (by omega)) (rz_in41 0 (by omega)) hab hb
      obtain ⟨υ5, e5, g5⟩ := rz_c_where hc hab hb w F hF hF2 1681 0 (by omega) (by omega) υ1 none none g1
      have f3 : rz_ft σ υ5 := rz_ft.of f1 (fun c hc => g5 c (by omega))
      obtain ⟨υ2, e2, f2, t2⟩ := rz_asM hB (f3.u2 (x := 0))
      obtain ⟨υ4, e4, k1⟩ := rz_m_where (rz_HM_mk hB f2 t2) hab hb w F hF hF2 1681 0 (by omega) (by omega) υ2 none none (fun _ _ => rfl) (-1) 0 0 (Or.inl ⟨rfl, rfl⟩)
      refine ⟨rz_wres F w (rz_bst F 1680), υ5, υ4, ?_, ?_, rz_R_ft (rz_ft.of f2 (fun c hc => k1 c (by omega))) h⟩
      · rw [e_98, rz_kSc hB f0, ra_kI, rz_t v2, rz_c_in _ _ 0 2 rfl rfl, ra_kI, rz_t v3, e1, ra_kV, show (0 : Int32) = nI 0 from rfl, e3, ra_kJ, e_98_56, if_neg (by decide)]
        have := hF 0
        rw [show (0 % 41 : Nat) = 0 from rfl, show (0 / 41 : Nat) = 0 from rfl] at this
        rw [← this]
        rw [show rz_bst F (0 - 1) = 0 from rfl, show (0 % 41 : Nat) = 0 from rfl, show (0 / 41 : Nat) = 0 from rfl] at e5
        exact e5
      · rw [e_209, rz_kSm hB (f3.u2), ra_kI, rz_t v2, rz_m_in _ _ 0 2 rfl rfl, ra_kI, rz_t v3, e2, ra_kV, e_209_45, if_pos (by decide)]
        exact e4
    · refine ⟨-1, σ, ra_ui σ 86 2 0, ?_, ?_, rz_R_ft f0' h⟩
      · rw [e_98, rz_kSc hB f0, ra_kI, rz_t v2, rz_c_in _ _ 0 2 rfl rfl, ra_kI, rz_f v3]
      · rw [e_209, rz_kSm hB f0', ra_kI, rz_t v2, rz_m_in _ _ 0 2 rfl rfl, ra_kI, rz_f v3]
  · refine ⟨-1, σ, ra_ui σ 86 2 0, ?_, ?_, rz_R_ft f0' h⟩
    · rw [e_98, rz_kSc hB f0, ra_kI, rz_f v2]
    · rw [e_209, rz_kSm hB f0', ra_kI, rz_f v2]
