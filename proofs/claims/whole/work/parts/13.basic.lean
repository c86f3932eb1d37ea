-- ===== reading a store, small methods =====
theorem ra_ui_get (σ : ra_S) (i k : Nat) (x : Int32) (j l : Nat) : (ra_ui σ i k x).1 j l = if j = i ∧ l = k then x else σ.1 j l := by
  by_cases h : j = i
  · subst h
    rw [ra_ui_s]
    unfold upd
    by_cases h2 : l = k
    · rw [if_pos h2, if_pos ⟨rfl, h2⟩]
    · rw [if_neg h2, if_neg (fun q => h2 q.2)]
  · rw [ra_ui_1 j h, if_neg (fun q => h q.1)]
theorem ra_ui_2 (σ : ra_S) (i k : Nat) (x : Int32) : (ra_ui σ i k x).2 = σ.2 := rfl
theorem ra_ul_1 (σ : ra_S) (i k : Nat) (x : Int64) : (ra_ul σ i k x).1 = σ.1 := rfl
theorem ra_ul_get (σ : ra_S) (i k : Nat) (x : Int64) (j l : Nat) : (ra_ul σ i k x).2 j l = if j = i ∧ l = k then x else σ.2 j l := by
  by_cases h : j = i
  · subst h
    rw [ra_ul_s]
    unfold vp_updL
    by_cases h2 : l = k
    · rw [if_pos h2, if_pos ⟨rfl, h2⟩]
    · rw [if_neg h2, if_neg (fun q => h2 q.2)]
  · rw [ra_ul_2 j h, if_neg (fun q => h q.1)]
/-- the stores agree but for the cells cs -/
def ra_ex (cs : List Nat) (σ τ : ra_S) : Prop := ∀ c, c ∉ cs → τ.1 c = σ.1 c ∧ τ.2 c = σ.2 c
theorem ra_ex.rf (cs : List Nat) (σ : ra_S) : ra_ex cs σ σ := fun _ _ => ⟨rfl, rfl⟩
theorem ra_ex.tr {cs : List Nat} {σ τ υ : ra_S} (h : ra_ex cs σ τ) (h2 : ra_ex cs τ υ) : ra_ex cs σ υ := fun c hc => ⟨(h2 c hc).1.trans (h c hc).1, (h2 c hc).2.trans (h c hc).2⟩
theorem ra_ex.ui {cs : List Nat} {σ τ : ra_S} (h : ra_ex cs σ τ) {i k : Nat} {x : Int32} (hi : i ∈ cs) : ra_ex cs σ (ra_ui τ i k x) := fun c hc => ⟨(ra_ui_1 c (fun q => hc (q ▸ hi))).trans (h c hc).1, (h c hc).2⟩
theorem ra_ex.ul {cs : List Nat} {σ τ : ra_S} (h : ra_ex cs σ τ) {i k : Nat} {x : Int64} (hi : i ∈ cs) : ra_ex cs σ (ra_ul τ i k x) := fun c hc => ⟨(h c hc).1, (ra_ul_2 c (fun q => hc (q ▸ hi))).trans (h c hc).2⟩
theorem ra_ex.mono {cs ds : List Nat} {σ τ : ra_S} (h : ra_ex cs σ τ) (hs : ∀ c ∈ cs, c ∈ ds) : ra_ex ds σ τ := fun c hc => h c (fun q => hc (hs c q))
/-- answers of calls -/
abbrev ra_I (x : Int32) (σ : ra_S) : Option ra_R := some (.inl (some (.int x)), σ)
abbrev ra_J (x : Int64) (σ : ra_S) : Option ra_R := some (.inl (some (.long x)), σ)
abbrev ra_V (σ : ra_S) : Option ra_R := some (.inl none, σ)
theorem ra_kI (x : Int32) (σ : ra_S) (k : Int32 → ra_S → Option ra_R) : (some ((.inl (some (.int x)) : Option Value ⊕ (ra_L × List Value)), σ)).bind (ra_ki k) = k x σ := rfl
theorem ra_kJ (x : Int64) (σ : ra_S) (k : Int64 → ra_S → Option ra_R) : (some ((.inl (some (.long x)) : Option Value ⊕ (ra_L × List Value)), σ)).bind (ra_kl k) = k x σ := rfl
theorem ra_kV (σ : ra_S) (k : ra_S → Option ra_R) : (some ((.inl none : Option Value ⊕ (ra_L × List Value)), σ)).bind (ra_kv k) = k σ := rfl
theorem ra_b0 {P : Prop} [Decidable P] : ((if P then (1 : Int32) else 0) = 0) ↔ ¬ P := by
  by_cases h : P
  · simp [h]
  · simp [h]
theorem ra_c_within (σ : ra_S) (a b c : Int32) : ra_C 136 [.int a, .int b, .int c] σ = ra_I (if b.toInt ≤ a.toInt ∧ a.toInt ≤ c.toInt then 1 else 0) σ := by
  rw [e_136]
  simp only [Int32.lt_iff_toInt_lt]
  repeat' split
  all_goals first | rfl | (exfalso; omega)
theorem ra_m_isIn (σ : ra_S) (a b c : Int32) : ra_C 141 [.int a, .int b, .int c] σ = ra_I (if b.toInt ≤ a.toInt ∧ a.toInt ≤ c.toInt then 1 else 0) σ := by
  rw [e_141]
  simp only [Int32.lt_iff_toInt_lt]
  repeat' split
  all_goals first | rfl | (exfalso; omega)
theorem ra_c_isOff (σ : ra_S) (a : Int32) : ra_C 135 [.int a] σ = ra_I (if 0 ≤ a.toInt ∧ a.toInt ≤ 9999 then 1 else 0) σ := by
  rw [e_135, ra_c_within, ra_kI]
  simp only [Int32.reduceToInt]
  repeat' split
  all_goals first | rfl | (exfalso; omega) | simp_all
theorem ra_c_isSeat (σ : ra_S) (a b : Int32) : ra_C 134 [.int a, .int b] σ = ra_I (if (0 ≤ a.toInt ∧ a.toInt ≤ 40) ∧ (0 ≤ b.toInt ∧ b.toInt ≤ 40) then 1 else 0) σ := by
  rw [e_134, ra_c_within, ra_kI]
  simp only [ra_c_within, ra_kI, Int32.reduceToInt, ra_b0]
  repeat' split
  all_goals first | rfl | (exfalso; omega) | simp_all
theorem ra_m_isSeat (σ : ra_S) (a b : Int32) : ra_C 203 [.int a, .int b] σ = ra_I (if (0 ≤ a.toInt ∧ a.toInt ≤ 40) ∧ (0 ≤ b.toInt ∧ b.toInt ≤ 40) then 1 else 0) σ := by
  rw [e_203, ra_m_isIn, ra_kI]
  simp only [ra_m_isIn, ra_kI, Int32.reduceToInt, ra_b0]
  repeat' split
  all_goals first | rfl | (exfalso; omega) | simp_all
theorem ra_c_isPlayer {σ : ra_S} {np : Nat} (hn : σ.1 16 0 = nI np) (hb : np ≤ 8) (p : Int32) : ra_C 130 [.ref 0, .int p] σ = ra_I (if 0 ≤ p.toInt ∧ p.toInt < np then 1 else 0) σ := by
  have h1 : (nI np).toInt = np := nI_toInt (by omega)
  rw [e_130]
  simp only [hn, Int32.lt_iff_toInt_lt, h1, Int32.reduceToInt]
  repeat' split
  all_goals first | rfl | (exfalso; omega)
theorem ra_m_isPlayer {σ : ra_S} {np : Nat} (hn : σ.1 86 14 = nI np) (hb : np ≤ 8) (p : Int32) : ra_C 173 [.ref 86, .int p] σ = ra_I (if 0 ≤ p.toInt ∧ p.toInt < np then 1 else 0) σ := by
  have h1 : (nI np).toInt = np := nI_toInt (by omega)
  rw [e_173]
  simp only [hn, Int32.lt_iff_toInt_lt, h1, Int32.reduceToInt]
  repeat' split
  all_goals first | rfl | (exfalso; omega)
theorem ra_c_isBeat {σ : ra_S} {nb : Nat} (hn : σ.1 10 5 = nI nb) (hb : nb ≤ 40) (p : Int32) : ra_C 131 [.ref 0, .int p] σ = ra_I (if 0 ≤ p.toInt ∧ p.toInt < nb then 1 else 0) σ := by
  have h1 : (nI nb).toInt = nb := nI_toInt (by omega)
  rw [e_131]
  simp only [hn, Int32.lt_iff_toInt_lt, h1, Int32.reduceToInt]
  repeat' split
  all_goals first | rfl | (exfalso; omega)
theorem ra_m_isBeat {σ : ra_S} {nb : Nat} (hn : σ.1 86 12 = nI nb) (hb : nb ≤ 40) (p : Int32) : ra_C 174 [.ref 86, .int p] σ = ra_I (if 0 ≤ p.toInt ∧ p.toInt < nb then 1 else 0) σ := by
  have h1 : (nI nb).toInt = nb := nI_toInt (by omega)
  rw [e_174]
  simp only [hn, Int32.lt_iff_toInt_lt, h1, Int32.reduceToInt]
  repeat' split
  all_goals first | rfl | (exfalso; omega)
theorem ra_c_isSpan {σ : ra_S} {nb : Nat} (hn : σ.1 10 5 = nI nb) (hb : nb ≤ 40) (a b : Int32) : ra_C 132 [.ref 0, .int a, .int b] σ = ra_I (if 0 ≤ a.toInt ∧ a.toInt ≤ b.toInt ∧ b.toInt < nb then 1 else 0) σ := by
  have h1 : (nI nb).toInt = nb := nI_toInt (by omega)
  rw [e_132]
  simp only [hn, Int32.lt_iff_toInt_lt, h1, Int32.reduceToInt]
  repeat' split
  all_goals first | rfl | (exfalso; omega)
theorem ra_m_areBeats {σ : ra_S} {nb : Nat} (hn : σ.1 86 12 = nI nb) (hb : nb ≤ 40) (a b : Int32) : ra_C 207 [.ref 86, .int a, .int b] σ = ra_I (if 0 ≤ a.toInt ∧ a.toInt ≤ b.toInt ∧ b.toInt < nb then 1 else 0) σ := by
  rw [e_207]
  simp only [ra_m_isBeat hn hb, ra_kI, Int32.lt_iff_toInt_lt, Int32.reduceToInt, ra_b0]
  repeat' split
  all_goals first | rfl | (exfalso; omega)
theorem ra_c_isWrong {σ : ra_S} {np nb : Nat} (hn : σ.1 16 0 = nI np) (hb : np ≤ 8) (hn2 : σ.1 10 5 = nI nb) (hb2 : nb ≤ 40) (p n v : Int32) : ra_C 133 [.ref 0, .int p, .int n, .int v] σ = ra_I (if (0 ≤ p.toInt ∧ p.toInt < np) ∧ (0 ≤ n.toInt ∧ n.toInt < nb) ∧ v ≠ 0 ∧ -2000 ≤ v.toInt ∧ v.toInt ≤ 2000 then 1 else 0) σ := by
  rw [e_133]
  simp only [ra_c_isPlayer hn hb, ra_c_isBeat hn2 hb2, ra_c_within, ra_kI, Int32.reduceToInt, ra_b0]
  repeat' split
  all_goals first | rfl | (exfalso; omega) | simp_all
