-- ===== text: one token, the reference =====
def rz_Tm (t : Nat → Nat) (N n : Nat) (τ : ra_S) : Prop := τ.1 86 6 = nI N ∧ N ≤ 800 ∧ τ.1 86 7 = nI n ∧ n ≤ N ∧ (∀ i, i < N → τ.1 87 i = nI (t i) ∧ t i ≤ 255) ∧ ∀ i, i < 63 → τ.1 88 i = rz_chars.getD i 0
def rz_fm (τ υ : ra_S) : Prop := (∀ c, c ≠ 86 → υ.1 c = τ.1 c) ∧ (∀ k, k < 7 ∨ 11 ≤ k → υ.1 86 k = τ.1 86 k) ∧ υ.2 = τ.2
theorem rz_fm.rf (τ : ra_S) : rz_fm τ τ := ⟨fun _ _ => rfl, fun _ _ => rfl, rfl⟩
theorem rz_fm.tr {τ υ ψ : ra_S} (h : rz_fm τ υ) (g : rz_fm υ ψ) : rz_fm τ ψ := ⟨fun c hc => (g.1 c hc).trans (h.1 c hc), fun k hk => (g.2.1 k hk).trans (h.2.1 k hk), g.2.2.trans h.2.2⟩
theorem rz_fm.ui {τ υ : ra_S} (h : rz_fm τ υ) {k : Nat} {x : Int32} (hk : 7 ≤ k ∧ k ≤ 10) : rz_fm τ (ra_ui υ 86 k x) := ⟨fun c hc => by rw [ra_ui_1 c hc]; exact h.1 c hc, fun j hj => by rw [ra_ui_get, if_neg (fun q => by omega)]; exact h.2.1 j hj, h.2.2⟩
theorem rz_Tm_ui {t : Nat → Nat} {N n : Nat} {τ : ra_S} (h : rz_Tm t N n τ) {k : Nat} {x : Int32} (hk : k ≠ 6 ∧ k ≠ 7) : rz_Tm t N n (ra_ui τ 86 k x) := by
  obtain ⟨h1, h2, h3, h4, h5, h6⟩ := h
  exact ⟨by rw [ra_ui_get, if_neg (fun q => by omega)]; exact h1, h2, by rw [ra_ui_get, if_neg (fun q => by omega)]; exact h3, h4, by rw [ra_ui_1 87 (by decide)]; exact h5, by rw [ra_ui_1 88 (by decide)]; exact h6⟩
theorem rz_Tm_n {t : Nat → Nat} {N n m : Nat} {τ : ra_S} (h : rz_Tm t N n τ) (hm : m ≤ N) : rz_Tm t N m (ra_ui τ 86 7 (nI m)) := by
  obtain ⟨h1, h2, h3, h4, h5, h6⟩ := h
  exact ⟨by rw [ra_ui_get, if_neg (fun q => by omega)]; exact h1, h2, by rw [ra_ui_get, if_pos ⟨rfl, rfl⟩], hm, by rw [ra_ui_1 87 (by decide)]; exact h5, by rw [ra_ui_1 88 (by decide)]; exact h6⟩
section RZTM
variable {t : Nat → Nat} {N : Nat}
theorem rz_m_skip : ∀ d n, n + d = N → ∀ τ : ra_S, rz_Tm t N n τ → ∃ υ : ra_S, ra_D (ra_lay, none, 99999, ra_m149) 0 [some (.ref 86)] [] τ = ra_D (ra_lay, none, 99999, ra_m149) 52 [some (.ref 86)] [] υ ∧ rz_Tm t N (rz_run (rz_isB t) d n) υ ∧ rz_fm τ υ := by
  intro d
  induction d with
  | zero =>
    intro n hn τ h
    have : n = N := by omega
    subst this
    rw [e_149_0, h.2.2.1, h.1, rz_inl (by have := h.2.1; omega) (Nat.le_refl _)]
    exact ⟨τ, rfl, h, rz_fm.rf τ⟩
  | succ d ih =>
    intro n hn τ h
    obtain ⟨h1, h2, h3, h4, h5, h6⟩ := id h
    obtain ⟨b1, b2⟩ := h5 n (by omega)
    rw [e_149_0, h3, h1, rz_il (by omega) (by omega), rz_ig (by omega) (by omega), nI_clamp (by omega), b1, rz_ig (by omega) (by omega), e_149_39, show (32 : Int32) = nI 32 from rfl, show (10 : Int32) = nI 10 from rfl, rz_lit (by omega) (by omega), rz_lit (by omega) (by omega), rz_run, h3, nI_1]
    have go : ∃ υ : ra_S, ra_D (ra_lay, none, 99999, ra_m149) 0 [some (.ref 86)] [] (ra_ui τ 86 7 (nI (n + 1))) = ra_D (ra_lay, none, 99999, ra_m149) 52 [some (.ref 86)] [] υ ∧ rz_Tm t N (rz_run (rz_isB t) d (n + 1)) υ ∧ rz_fm τ υ := by
      obtain ⟨υ, e, g1, g2⟩ := ih (n + 1) (by omega) _ (rz_Tm_n h (by omega))
      exact ⟨υ, e, g1, ((rz_fm.rf τ).ui (by omega)).tr g2⟩
    by_cases z : t n = 10
    · rw [if_pos z, if_pos (Or.inr z)]; exact go
    · rw [if_neg z]
      by_cases y : t n = 32
      · rw [if_pos y, if_pos (Or.inl y)]; exact go
      · rw [if_neg y, if_neg (fun q => q.elim y z)]
        exact ⟨τ, rfl, h, rz_fm.rf τ⟩
theorem rz_m_isS {n i : Nat} {τ : ra_S} (h : rz_Tm t N n τ) (hi : i ≤ N) : ra_C 147 [.ref 86, .int (nI i)] τ = ra_I (if i < N ∧ rz_isL t i then 1 else 0) τ := by
  obtain ⟨h1, h2, h3, h4, h5, h6⟩ := id h
  rw [e_147, h1]
  by_cases z : i < N
  · obtain ⟨b1, b2⟩ := h5 i z
    rw [rz_il (by omega) z, rz_ig (by omega) (by omega), nI_clamp (by omega), b1, rz_ig (by omega) (by omega), show (97 : Int32) = nI 97 from rfl, show (122 : Int32) = nI 122 from rfl, rz_ltt (by omega) (by omega), rz_ltt (by omega) (by omega)]
    by_cases y : t i < 97
    · rw [if_pos y, if_neg (fun q => by have := q.2.1; omega)]
    · rw [if_neg y]
      by_cases x : 122 < t i
      · rw [if_pos x, if_neg (fun q => by have := q.2.2; omega)]
      · rw [if_neg x, if_pos ⟨z, by omega, by omega⟩]
  · rw [rz_inl (by omega) (by omega), if_neg (fun q => z q.1)]
theorem rz_m_isD {n i : Nat} {τ : ra_S} (h : rz_Tm t N n τ) (hi : i ≤ N) : ra_C 148 [.ref 86, .int (nI i)] τ = ra_I (if i < N ∧ rz_isN t i then 1 else 0) τ := by
  obtain ⟨h1, h2, h3, h4, h5, h6⟩ := id h
  rw [e_148, h1]
  by_cases z : i < N
  · obtain ⟨b1, b2⟩ := h5 i z
    rw [rz_il (by omega) z, rz_ig (by omega) (by omega), nI_clamp (by omega), b1, rz_ig (by omega) (by omega), show (48 : Int32) = nI 48 from rfl, show (57 : Int32) = nI 57 from rfl, rz_ltt (by omega) (by omega), rz_ltt (by omega) (by omega)]
    by_cases y : t i < 48
    · rw [if_pos y, if_neg (fun q => by have := q.2.1; omega)]
    · rw [if_neg y]
      by_cases x : 57 < t i
      · rw [if_pos x, if_neg (fun q => by have := q.2.2; omega)]
      · rw [if_neg x, if_pos ⟨z, by omega, by omega⟩]
  · rw [rz_inl (by omega) (by omega), if_neg (fun q => z q.1)]
theorem rz_m_let : ∀ d i, i + d = N → ∀ τ : ra_S, rz_Tm t N i τ → ∃ υ : ra_S, ra_D (ra_lay, none, 99999, ra_m149) 90 [some (.ref 86)] [] τ = ra_D (ra_lay, none, 99999, ra_m149) 90 [some (.ref 86)] [] υ ∧ rz_Tm t N (rz_run (rz_isL t) d i) υ ∧ rz_fm τ υ ∧ υ.1 86 10 = τ.1 86 10 := by
  intro d
  induction d with
  | zero => intro i hi τ h; exact ⟨τ, rfl, h, rz_fm.rf τ, rfl⟩
  | succ d ih =>
    intro i hi τ h
    by_cases z : rz_isL t i
    · rw [rz_run, if_pos z]
      obtain ⟨υ, e, g1, g2, g3⟩ := ih (i + 1) (by omega) _ (rz_Tm_n h (by omega))
      refine ⟨υ, ?_, g1, ((rz_fm.rf τ).ui (by omega)).tr g2, by rw [g3, ra_ui_get, if_neg (by decide)]⟩
      rw [e_149_90, h.2.2.1, rz_m_isS h (by omega), ra_kI, rz_t ⟨by omega, z⟩, h.2.2.1, nI_1]
      exact e
    · rw [rz_run, if_neg z]; exact ⟨τ, rfl, h, rz_fm.rf τ, rfl⟩
theorem rz_m_dgt {x : Int32} {v l : Nat} (h : rz_nq x v) (hl : 48 ≤ l ∧ l ≤ 57) : rz_nq (if (9999 : Int32) < x then x else (10 : Int32) * x + nI l - (48 : Int32)) (rz_ns v (l - 48)) := by
  have key : ∀ m : Nat, (10 : Int32) * nI m + nI l - (48 : Int32) = nI (10 * m + (l - 48)) := fun m => by
    obtain ⟨j, rfl⟩ : ∃ j, l = j + 48 := ⟨l - 48, by omega⟩
    rw [show (10 : Int32) * nI m = nI (10 * m) from pk_mul 10 m, nI_add, show 10 * m + (j + 48) = (10 * m + j) + 48 by omega, ← nI_add (10 * m + j) 48, show (48 : Int32) = nI 48 from rfl, Int32.add_sub_cancel, show j + 48 - 48 = j by omega]
  rcases h with ⟨h1, rfl⟩ | ⟨rfl, m, rfl, h2, h3⟩
  · rw [show (9999 : Int32) = nI 9999 from rfl, rz_inl (by omega) (by omega), key]
    unfold rz_ns
    by_cases z : 10 * v + (l - 48) < 10000
    · rw [if_pos z]; exact Or.inl ⟨z, rfl⟩
    · rw [if_neg z]; exact Or.inr ⟨rfl, _, rfl, by omega, by omega⟩
  · have en : rz_ns 10000 (l - 48) = 10000 := if_neg (by omega)
    rw [en, show (9999 : Int32) = nI 9999 from rfl, rz_il (by omega) (by omega)]
    exact Or.inr ⟨rfl, m, rfl, h2, h3⟩
theorem rz_m_dig (a : Nat) : ∀ d k, a + k + d = N → ∀ τ : ra_S, rz_Tm t N (a + k) τ → rz_nq (τ.1 86 9) (rz_nvl t a k) → ∃ υ : ra_S, ra_D (ra_lay, none, 99999, ra_m149) 212 [some (.ref 86)] [] τ = ra_V υ ∧ rz_Tm t N (rz_run (rz_isN t) d (a + k)) υ ∧ rz_fm τ υ ∧ rz_nq (υ.1 86 9) (rz_nvl t a (rz_run (rz_isN t) d (a + k) - a)) ∧ υ.1 86 10 = τ.1 86 10 ∧ υ.1 86 8 = τ.1 86 8 := by
  intro d
  induction d with
  | zero =>
    intro k hk τ h hv
    rw [e_149_212, h.2.2.1, rz_m_isD h (by omega), ra_kI, rz_f (fun q => by have := q.1; omega), rz_run, show a + k - a = k by omega]
    exact ⟨τ, rfl, h, rz_fm.rf τ, hv, rfl, rfl⟩
  | succ d ih =>
    intro k hk τ h hv
    obtain ⟨h1, h2, h3, h4, h5, h6⟩ := id h
    obtain ⟨b1, b2⟩ := h5 (a + k) (by omega)
    by_cases z : rz_isN t (a + k)
    · have hq := rz_m_dgt hv z
      rw [e_149_212, h3, rz_m_isD h (by omega), ra_kI, rz_t ⟨by omega, z⟩, h3, rz_ig (by omega) (by omega), nI_clamp (by omega), b1, e_149_261, e_149_261, rz_run, if_pos z]
      have go : ∀ x : Int32, rz_nq x (rz_nvl t a (k + 1)) → ∃ υ : ra_S, ra_D (ra_lay, none, 99999, ra_m149) 212 [some (.ref 86)] [] (ra_ui (ra_ui τ 86 9 x) 86 7 (nI (a + k + 1))) = ra_V υ ∧ rz_Tm t N (rz_run (rz_isN t) d (a + k + 1)) υ ∧ rz_fm τ υ ∧ rz_nq (υ.1 86 9) (rz_nvl t a (rz_run (rz_isN t) d (a + k + 1) - a)) ∧ υ.1 86 10 = τ.1 86 10 ∧ υ.1 86 8 = τ.1 86 8 := by
        intro x hx
        obtain ⟨υ, e, g1, g2, g3, g4, g5⟩ := ih (k + 1) (by omega) (ra_ui (ra_ui τ 86 9 x) 86 7 (nI (a + k + 1))) (rz_Tm_n (rz_Tm_ui h (by omega)) (by omega)) (by rw [ra_ui_get, if_neg (by decide), ra_ui_get, if_pos ⟨rfl, rfl⟩]; exact hx)
        refine ⟨υ, e, g1, (((rz_fm.rf τ).ui (by omega)).ui (by omega)).tr g2, g3, ?_, ?_⟩
        · rw [g4, ra_ui_get, if_neg (by decide), ra_ui_get, if_neg (by decide)]
        · rw [g5, ra_ui_get, if_neg (by decide), ra_ui_get, if_neg (by decide)]
      by_cases y : (9999 : Int32) < τ.1 86 9
      · rw [if_pos y] at hq ⊢
        rw [h3, nI_1]
        exact go _ hq
      · rw [if_neg y] at hq ⊢
        rw [h3, nI_1]
        exact go _ hq
    · rw [e_149_212, h3, rz_m_isD h (by omega), ra_kI, rz_f (fun q => z q.2), rz_run, if_neg z, show a + k - a = k by omega]
      exact ⟨τ, rfl, h, rz_fm.rf τ, hv, rfl, rfl⟩
def rz_wg (w : Nat) : Nat := if w < 11 then rz_wf w else 63
theorem rz_wg_next : ∀ w : Fin 11, rz_wg (w.val + 1) = rz_wf w.val + rz_wl w.val + 1 := by decide +kernel
theorem rz_m_onew {n a k w : Nat} {τ : ra_S} (h : rz_Tm t N n τ) (hw : w < 11) (ha : a + k ≤ N) (o6 o7 : Option Value) : ∃ (v6 : Int32) (o7' : Option Value), ra_D (ra_lay, none, 99999, ra_m146) 18 [some (.ref 86), some (.int (nI a)), some (.int (nI (a + k))), some (.int (nI w)), some (.int (nI (rz_wf w))), some (.int (nI 0)), o6, o7] [] τ = ra_D (ra_lay, none, 99999, ra_m146) 104 [some (.ref 86), some (.int (nI a)), some (.int (nI (a + k))), some (.int (nI w)), some (.int (nI (rz_wf w))), some (.int (nI (rz_wl w))), some (.int v6), o7'] [] τ ∧ ((v6 = 1 ∧ rz_eqw t a k w) ∨ (v6 = 0 ∧ ¬ rz_eqw t a k w)) := by
  obtain ⟨h1, h2, h3, h4, h5, h6⟩ := id h
  obtain ⟨q1, q2, q3, q4, q5⟩ := rz_wok ⟨w, hw⟩
  dsimp only at q1 q2 q3 q4 q5
  generalize hf : rz_wf w = fr at *
  generalize hl : rz_wl w = ln at *
  have ch : ∀ m, m ≤ ln → τ.1 88 (fr + m) = nI (rz_wch (fr + m)) := fun m hm => by rw [h6 _ (by omega)]; exact rz_wch_nI ⟨fr + m, by omega⟩
  have sm : ∀ m, m < ln → 97 ≤ rz_wch (fr + m) ∧ rz_wch (fr + m) ≤ 122 := fun m hm => q4 ⟨m, by omega⟩ hm
  have cmp : ∀ d m, m + d = ln → ln = k → (∀ j, j < m → t (a + j) = rz_wch (fr + j)) → ∃ (v6 : Int32) (o7' : Option Value), ra_D (ra_lay, none, 99999, ra_m146) 57 [some (.ref 86), some (.int (nI a)), some (.int (nI (a + k))), some (.int (nI w)), some (.int (nI fr)), some (.int (nI ln)), some (.int 1), some (.int (nI m))] [] τ = ra_D (ra_lay, none, 99999, ra_m146) 104 [some (.ref 86), some (.int (nI a)), some (.int (nI (a + k))), some (.int (nI w)), some (.int (nI fr)), some (.int (nI ln)), some (.int v6), o7'] [] τ ∧ ((v6 = 1 ∧ rz_eqw t a k w) ∨ (v6 = 0 ∧ ¬ rz_eqw t a k w)) := by
    intro d
    induction d with
    | zero =>
      intro m hm hk g
      have : m = ln := by omega
      subst this
      rw [e_146_57, rz_inl (by omega) (by omega)]
      refine ⟨1, _, rfl, Or.inl ⟨rfl, ?_, fun j hj => ?_⟩⟩
      · rw [hl]; exact hk.symm
      · rw [hf]; exact g j (by omega)
    | succ d ih =>
      intro m hm hk g
      obtain ⟨b1, b2⟩ := h5 (a + m) (by omega)
      have s := sm m (by omega)
      rw [e_146_57, rz_il (by omega) (by omega), if_neg (by decide), nI_add, nI_add, rz_ig (by omega) (by omega), rz_ig (by omega) (by omega), nI_clamp (by omega), nI_clamp (by omega), b1, ch m (by omega), rz_lit (by omega) (by omega), nI_1]
      by_cases z : rz_wch (fr + m) = t (a + m)
      · rw [if_pos z]
        exact ih (m + 1) (by omega) hk (fun j hj => by
          by_cases y : j = m
          · rw [y]; exact z.symm
          · exact g j (by omega))
      · rw [if_neg z]
        have no : ¬ rz_eqw t a k w := fun q => z (by have := q.2 m (by omega); rw [hf] at this; exact this.symm)
        rw [e_146_57]
        by_cases y : m + 1 < ln
        · rw [rz_il (by omega) y, if_pos rfl]
          exact ⟨0, _, rfl, Or.inr ⟨rfl, no⟩⟩
        · rw [rz_inl (by omega) (by omega)]
          exact ⟨0, _, rfl, Or.inr ⟨rfl, no⟩⟩
  have scan : ∀ d m, m + d = ln → ∃ (v6 : Int32) (o7' : Option Value), ra_D (ra_lay, none, 99999, ra_m146) 18 [some (.ref 86), some (.int (nI a)), some (.int (nI (a + k))), some (.int (nI w)), some (.int (nI fr)), some (.int (nI m)), o6, o7] [] τ = ra_D (ra_lay, none, 99999, ra_m146) 104 [some (.ref 86), some (.int (nI a)), some (.int (nI (a + k))), some (.int (nI w)), some (.int (nI fr)), some (.int (nI ln)), some (.int v6), o7'] [] τ ∧ ((v6 = 1 ∧ rz_eqw t a k w) ∨ (v6 = 0 ∧ ¬ rz_eqw t a k w)) := by
    intro d
    induction d with
    | zero =>
      intro m hm
      have : m = ln := by omega
      subst this
      rw [e_146_18, nI_add, rz_ig (by omega) (by omega), nI_clamp (by omega), ch m (by omega), q5, if_pos (show nI 32 = (32 : Int32) from rfl), show nI (a + k) - nI a = nI k by rw [Nat.add_comm, ← nI_add, Int32.add_sub_cancel], rz_lit (by omega) (by omega), show (0 : Int32) = nI 0 from rfl]
      by_cases z : m = k
      · rw [if_pos z]
        exact cmp m 0 (by omega) z (fun j hj => by omega)
      · have no : ¬ rz_eqw t a k w := fun q => z (by have := q.1; rw [hl] at this; exact this.symm)
        rw [if_neg z, e_146_57, rz_il (by omega) (by omega), if_pos (show nI 0 = (0 : Int32) from rfl)]
        exact ⟨nI 0, _, rfl, Or.inr ⟨rfl, no⟩⟩
    | succ d ih =>
      intro m hm
      have s := sm m (by omega)
      rw [e_146_18, nI_add, rz_ig (by omega) (by omega), nI_clamp (by omega), ch m (by omega), show (32 : Int32) = nI 32 from rfl, rz_lit (by omega) (by omega), if_neg (by omega), nI_1]
      exact ih (m + 1) (by omega)
  exact scan ln 0 (by omega)
theorem rz_m_word {n a k : Nat} {τ : ra_S} (h : rz_Tm t N n τ) (ha : a + k ≤ N) : ∃ r : Int32, ra_C 146 [.ref 86, .int (nI a), .int (nI (a + k))] τ = ra_I r τ ∧ ((∃ w, w < 11 ∧ r = nI w ∧ rz_eqw t a k w) ∨ (r = -1 ∧ ∀ w, w < 11 → ¬ rz_eqw t a k w)) := by
  have hN := h.2.1
  have loop : ∀ d w, w + d = 11 → (∀ v, v < w → ¬ rz_eqw t a k v) → ∀ o5 o6 o7 : Option Value, ∃ r : Int32, ra_D (ra_lay, none, 99999, ra_m146) 5 [some (.ref 86), some (.int (nI a)), some (.int (nI (a + k))), some (.int (nI w)), some (.int (nI (rz_wg w))), o5, o6, o7] [] τ = ra_I r τ ∧ ((∃ w, w < 11 ∧ r = nI w ∧ rz_eqw t a k w) ∨ (r = -1 ∧ ∀ w, w < 11 → ¬ rz_eqw t a k w)) := by
    intro d
    induction d with
    | zero =>
      intro w hw g o5 o6 o7
      have : w = 11 := by omega
      subst this
      rw [e_146_5, if_neg (by decide)]
      exact ⟨_, rfl, Or.inr ⟨rfl, g⟩⟩
    | succ d ih =>
      intro w hw g o5 o6 o7
      have eg : rz_wg w = rz_wf w := if_pos (by omega)
      obtain ⟨q1, q2, q3, q4, q5⟩ := rz_wok ⟨w, by omega⟩
      dsimp only at q1 q2 q3
      have nx := rz_wg_next ⟨w, by omega⟩
      dsimp only at nx
      obtain ⟨v6, o7', e, hv⟩ := rz_m_onew h (w := w) (by omega) ha o6 o7
      rw [e_146_5, eg, show (63 : Int32) = nI 63 from rfl, rz_il (by omega) (by omega), show (0 : Int32) = nI 0 from rfl, e, e_146_104]
      rcases hv with ⟨rfl, q⟩ | ⟨rfl, q⟩
      · rw [if_neg (by decide)]
        exact ⟨_, rfl, Or.inl ⟨w, by omega, rfl, q⟩⟩
      · rw [if_pos rfl, nI_1, nI_1, nI_add, show rz_wf w + (rz_wl w + 1) = rz_wg (w + 1) by omega]
        exact ih (w + 1) (by omega) (fun v hv => by
          by_cases y : v = w
          · rw [y]; exact q
          · exact g v (by omega)) _ _ _
  obtain ⟨r, e, g⟩ := loop 11 0 (by omega) (fun v hv => by omega) none none none
  exact ⟨r, by rw [e_146]; exact e, g⟩
def rz_pp (t : Nat → Nat) (a n : Nat) : Nat → Nat
  | 0 => 0
  | m + 1 => rz_pp t a n m * 32 + rz_dg t a n m
theorem rz_m_pack {n a k : Nat} {τ : ra_S} (h : rz_Tm t N n τ) (ha : a + k ≤ N) (hl : ∀ m, m < k → 97 ≤ t (a + m) ∧ t (a + m) ≤ 122) : ra_C 150 [.ref 86, .int (nI a), .int (nI (a + k))] τ = ra_I (nI (rz_pk t a k)) τ := by
  obtain ⟨h1, h2, h3, h4, h5, h6⟩ := id h
  have loop : ∀ d m, m + d = 6 → ra_D (ra_lay, none, 99999, ra_m150) 5 [some (.ref 86), some (.int (nI a)), some (.int (nI (a + k))), some (.int (nI (rz_pp t a k m))), some (.int (nI (a + m)))] [] τ = ra_I (nI (rz_pk t a k)) τ := by
    intro d
    induction d with
    | zero =>
      intro m hm
      have : m = 6 := by omega
      subst this
      rw [e_150_5, show nI a + (6 : Int32) = nI (a + 6) from nI_add a 6, rz_inl (by omega) (by omega)]
      have : rz_pp t a k 6 = rz_pk t a k := by
        unfold rz_pk
        simp only [rz_pp]
        omega
      rw [this]
    | succ d ih =>
      intro m hm
      rw [e_150_5, show nI a + (6 : Int32) = nI (a + 6) from nI_add a 6, rz_il (by omega) (by omega), rz_sh5, show (0 : Int32) = nI 0 from rfl]
      have i := ih (m + 1) (by omega)
      rw [rz_pp] at i
      by_cases z : m < k
      · have l := hl m z
        have dg : rz_dg t a k m = t (a + m) - 96 := if_pos z
        have sub : nI (t (a + m)) - (96 : Int32) = nI (t (a + m) - 96) := by
          obtain ⟨j, hj⟩ : ∃ j, t (a + m) = j + 96 := ⟨t (a + m) - 96, by omega⟩
          rw [hj, ← nI_add, show (96 : Int32) = nI 96 from rfl, Int32.add_sub_cancel, show j + 96 - 96 = j by omega]
        rw [rz_il (by omega) (by omega), rz_ig (by omega) (by omega), nI_clamp (by omega), (h5 (a + m) (by omega)).1, sub, rz_orN32, Nat.mul_comm _ 32, rz_or_add (k := 5) (by omega), nI_1]
        rw [dg, Nat.mul_comm _ 32] at i
        exact i
      · have dg : rz_dg t a k m = 0 := if_neg z
        rw [rz_inl (by omega) (by omega), rz_orN32, Nat.or_zero, nI_1]
        rw [dg, Nat.add_zero] at i
        exact i
  rw [e_150]
  exact loop 6 0 (by omega)
end RZTM
def rz_Km (k : Nat × Nat) (τ : ra_S) : Prop := match k.1 with
  | 0 => τ.1 86 8 = 0
  | 1 => τ.1 86 8 = 5
  | 2 => τ.1 86 8 = 3 ∧ rz_nq (τ.1 86 9) k.2
  | 3 => τ.1 86 8 = 2 ∧ τ.1 86 9 = nI k.2
  | 4 => τ.1 86 8 = 4 ∧ τ.1 86 9 = 45
  | 5 => τ.1 86 8 = 4 ∧ τ.1 86 9 = 59
  | 6 => k.2 < 11 ∧ τ.1 86 8 = 1 ∧ τ.1 86 9 = nI k.2
  | _ => False
theorem rz_m_step {t : Nat → Nat} {N n : Nat} {τ : ra_S} (h : rz_Tm t N n τ) {k : Nat × Nat} {pl nx : Nat} (hk : rz_tkP t N n k pl nx) : ∃ υ : ra_S, ra_C 149 [.ref 86] τ = ra_V υ ∧ rz_Tm t N nx υ ∧ rz_fm τ υ ∧ rz_Km k υ ∧ υ.1 86 10 = nI pl := by
  obtain ⟨hp, hk⟩ := hk
  obtain ⟨υ1, e1, T1, f1⟩ := rz_m_skip (N - n) n (by have := h.2.2.2.1; omega) τ h
  rw [← hp] at T1
  have hN := h.2.1
  have hpN := T1.2.2.2.1
  have T2 : rz_Tm t N pl (ra_ui υ1 86 10 (nI pl)) := rz_Tm_ui T1 (by omega)
  have f2 : rz_fm τ (ra_ui υ1 86 10 (nI pl)) := f1.ui (by omega)
  rw [e_149, e1, e_149_52, T1.2.2.1, T1.1, rz_lit (by omega) (by omega)]
  rcases hk with ⟨k1, rfl, rfl⟩ | ⟨k1, k2, rfl, k4⟩ | ⟨k1, k2, k3, rfl, rfl⟩ | ⟨k1, k2, k3, rfl, k5⟩
  · rw [if_pos k1]
    exact ⟨_, rfl, rz_Tm_ui T2 (by omega), f2.ui (by omega), by show (ra_ui _ 86 8 0).1 86 8 = 0; rw [ra_ui_get, if_pos ⟨rfl, rfl⟩], by rw [ra_ui_get, if_neg (by decide), ra_ui_get, if_pos ⟨rfl, rfl⟩]⟩
  · rw [if_neg (by omega), rz_m_isS T2 hpN, ra_kI, rz_t ⟨k1, k2⟩]
    obtain ⟨υ2, e2, T3, f3, p3⟩ := rz_m_let (N - pl) pl (by omega) _ T2
    have p3' : υ2.1 86 10 = nI pl := by rw [p3, ra_ui_get, if_pos ⟨rfl, rfl⟩]
    have rl := rz_run_le (rz_isL t) (N - pl) pl
    have allL : ∀ m, m < rz_run (rz_isL t) (N - pl) pl - pl → 97 ≤ t (pl + m) ∧ t (pl + m) ≤ 122 := fun m hm => rz_run_in (rz_isL t) (N - pl) pl (pl + m) (by omega) (by omega)
    have ends : ¬ (rz_run (rz_isL t) (N - pl) pl < N ∧ rz_isL t (rz_run (rz_isL t) (N - pl) pl)) := fun q => rz_run_out (rz_isL t) (N - pl) pl (by omega) q.2
    generalize rz_run (rz_isL t) (N - pl) pl = nx at *
    obtain ⟨ln, rfl⟩ : ∃ ln, nx = pl + ln := ⟨nx - pl, by omega⟩
    rw [show pl + ln - pl = ln by omega] at k4 allL
    obtain ⟨r, er, hr⟩ := rz_m_word T3 (a := pl) (k := ln) (by omega)
    rw [e2, e_149_90, T3.2.2.1, rz_m_isS T3 (by omega), ra_kI, rz_f ends, T3.2.2.1, p3', er, ra_kI, T3.2.2.1, p3', show nI (pl + ln) - nI pl = nI ln by rw [Nat.add_comm, ← nI_add, Int32.add_sub_cancel], e_149_161, e_149_161, e_149_161, if_neg (show ¬ (5 : Int32) = 2 by decide), if_pos (show (2 : Int32) = 2 from rfl), if_neg (show ¬ (1 : Int32) = 2 by decide)]
    have k86 : ∀ x y : Int32, rz_Tm t N (pl + ln) (ra_ui (ra_ui υ2 86 9 x) 86 8 y) ∧ rz_fm τ (ra_ui (ra_ui υ2 86 9 x) 86 8 y) ∧ (ra_ui (ra_ui υ2 86 9 x) 86 8 y).1 86 8 = y ∧ (ra_ui (ra_ui υ2 86 9 x) 86 8 y).1 86 9 = x ∧ (ra_ui (ra_ui υ2 86 9 x) 86 8 y).1 86 10 = nI pl := fun x y =>
      ⟨rz_Tm_ui (rz_Tm_ui T3 (by omega)) (by omega), (((f2.tr f3).ui (by omega)).ui (by omega)), by rw [ra_ui_get, if_pos ⟨rfl, rfl⟩], by rw [ra_ui_get, if_neg (by decide), ra_ui_get, if_pos ⟨rfl, rfl⟩], by rw [ra_ui_get, if_neg (by decide), ra_ui_get, if_neg (by decide)]; exact p3'⟩
    rcases k4 with ⟨c1, rfl⟩ | ⟨c1, w, c2, c3, rfl⟩ | ⟨c1, c2, rfl⟩
    · have r1 : r = -1 := by
        rcases hr with ⟨w, q1, -, q2⟩ | ⟨q1, -⟩
        · have := (rz_wok ⟨w, q1⟩).1
          have := q2.1
          dsimp only at *
          omega
        · exact q1
      subst r1
      rw [if_pos (by decide), show (6 : Int32) = nI 6 from rfl, rz_il (by omega) c1]
      obtain ⟨a1, a2, a3, a4, a5⟩ := k86 (-1) 5
      exact ⟨_, rfl, a1, a2, a3, a5⟩
    · have r1 : r = nI w := by
        rcases hr with ⟨v, q1, q0, q2⟩ | ⟨-, q2⟩
        · have e1 := (rz_eqw_iff q1 c1 allL).mp q2
          have e2 := (rz_eqw_iff c2 c1 allL).mp c3
          have e3 := congrArg Fin.val (rz_w_inj ⟨rz_wc v, rz_wc_lt ⟨v, q1⟩⟩ ⟨rz_wc w, rz_wc_lt ⟨w, c2⟩⟩ (e1.trans e2.symm))
          have : ∀ x y : Fin 11, rz_wc x.val = rz_wc y.val → x = y := by decide +kernel
          have := congrArg Fin.val (this ⟨v, q1⟩ ⟨w, c2⟩ e3)
          dsimp only at this
          rw [q0, this]
        · exact absurd c3 (q2 w c2)
      subst r1
      rw [if_neg (nI_pos (by omega))]
      obtain ⟨a1, a2, a3, a4, a5⟩ := k86 (nI w) 1
      exact ⟨_, rfl, a1, a2, ⟨c2, a3, a4⟩, a5⟩
    · have r1 : r = -1 := by
        rcases hr with ⟨w, q1, -, q2⟩ | ⟨q1, -⟩
        · exact absurd q2 (c2 w q1)
        · exact q1
      subst r1
      obtain ⟨a1, a2, a3, a4, a5⟩ := k86 (-1) 2
      have e7 : (ra_ui υ2 86 9 (-1)).1 86 7 = nI (pl + ln) := by rw [ra_ui_get, if_neg (by decide)]; exact T3.2.2.1
      have e10 : (ra_ui υ2 86 9 (-1)).1 86 10 = nI pl := by rw [ra_ui_get, if_neg (by decide)]; exact p3'
      rw [if_pos (by decide), show (6 : Int32) = nI 6 from rfl, rz_inl (by omega) c1, e7, e10, rz_m_pack a1 (by omega) allL, ra_kI]
      exact ⟨_, rfl, rz_Tm_ui a1 (by omega), a2.ui (by omega), ⟨by rw [ra_ui_get, if_neg (by decide)]; exact a3, by rw [ra_ui_get, if_pos ⟨rfl, rfl⟩]⟩, by rw [ra_ui_get, if_neg (by decide)]; exact a5⟩
  · rw [if_neg (by omega), rz_m_isS T2 hpN, ra_kI, rz_f (fun q => k2 q.2), T2.2.2.1, rz_m_isD T2 hpN, ra_kI, rz_t ⟨k1, k3⟩]
    have T4 : rz_Tm t N (pl + 0) (ra_ui (ra_ui (ra_ui υ1 86 10 (nI pl)) 86 8 3) 86 9 0) := rz_Tm_ui (rz_Tm_ui T2 (by omega)) (by omega)
    obtain ⟨υ2, e2, T3, f3, v3, p3, q3⟩ := rz_m_dig pl (N - pl) 0 (by omega) _ T4 (Or.inl ⟨by unfold rz_nvl; omega, by rw [ra_ui_get, if_pos ⟨rfl, rfl⟩]; rfl⟩)
    rw [Nat.add_zero] at T3 v3
    refine ⟨υ2, e2, T3, ((f2.ui (by omega)).ui (by omega)).tr f3, ⟨?_, v3⟩, ?_⟩
    · rw [q3, ra_ui_get, if_neg (by decide), ra_ui_get, if_pos ⟨rfl, rfl⟩]
    · rw [p3, ra_ui_get, if_neg (by decide), ra_ui_get, if_neg (by decide), ra_ui_get, if_pos ⟨rfl, rfl⟩]
  · obtain ⟨b1, b2⟩ := T2.2.2.2.2.1 pl k1
    rw [if_neg (by omega), rz_m_isS T2 hpN, ra_kI, rz_f (fun q => k2 q.2), T2.2.2.1, rz_m_isD T2 hpN, ra_kI, rz_f (fun q => k3 q.2), T2.2.2.1, rz_ig (by omega) (by omega), nI_clamp (by omega), b1, show (59 : Int32) = nI 59 from rfl, show (45 : Int32) = nI 45 from rfl, rz_lit (by omega) (by omega), rz_lit (by omega) (by omega), e_149_309, e_149_314, e_149_314, show (ra_ui (ra_ui υ1 86 10 (nI pl)) 86 9 (nI (t pl))).1 86 7 = nI pl by rw [ra_ui_get, if_neg (by decide)]; exact T2.2.2.1, nI_1]
    have fin : ∀ y : Int32, ∃ υ : ra_S, ra_V (ra_ui (ra_ui (ra_ui (ra_ui υ1 86 10 (nI pl)) 86 9 (nI (t pl))) 86 8 y) 86 7 (nI (pl + 1))) = ra_V υ ∧ rz_Tm t N (pl + 1) υ ∧ rz_fm τ υ ∧ υ.1 86 8 = y ∧ υ.1 86 9 = nI (t pl) ∧ υ.1 86 10 = nI pl := fun y =>
      ⟨_, rfl, rz_Tm_n (rz_Tm_ui (rz_Tm_ui T2 (by omega)) (by omega)) (by omega), ((f2.ui (by omega)).ui (by omega)).ui (by omega), by rw [ra_ui_get, if_neg (by decide), ra_ui_get, if_pos ⟨rfl, rfl⟩], by rw [ra_ui_get, if_neg (by decide), ra_ui_get, if_neg (by decide), ra_ui_get, if_pos ⟨rfl, rfl⟩], by rw [ra_ui_get, if_neg (by decide), ra_ui_get, if_neg (by decide), ra_ui_get, if_neg (by decide), ra_ui_get, if_pos ⟨rfl, rfl⟩]⟩
    by_cases z : t pl = 59
    · rw [if_pos z]
      rw [if_neg (by omega), if_pos z] at k5
      subst k5
      obtain ⟨υ, a1, a2, a3, a4, a5, a6⟩ := fin 4
      exact ⟨υ, a1, a2, a3, ⟨a4, by rw [a5, z]; rfl⟩, a6⟩
    · rw [if_neg z]
      by_cases y : t pl = 45
      · rw [if_pos y] at k5 ⊢
        subst k5
        obtain ⟨υ, a1, a2, a3, a4, a5, a6⟩ := fin 4
        exact ⟨υ, a1, a2, a3, ⟨a4, by rw [a5, y]; rfl⟩, a6⟩
      · rw [if_neg y, if_neg z] at k5
        rw [if_neg y]
        subst k5
        obtain ⟨υ, a1, a2, a3, a4, a5, a6⟩ := fin 5
        exact ⟨υ, a1, a2, a3, a4, a6⟩
