-- ===== searches, sums; the simple calls; partly written by wip/whole/gen15.py =====
theorem rz_nat {x : Int32} {n : Nat} (hn : n < 2 ^ 31) (h : 0 ≤ x.toInt ∧ x.toInt < n) : ∃ j, j < n ∧ x = nI j := vp_in_of (vp_in_iff.mpr h) hn
theorem rz_nat' {x : Int32} {n : Nat} (hn : n < 2 ^ 30) (h : 0 ≤ x.toInt ∧ x.toInt ≤ n) : ∃ j, j ≤ n ∧ x = nI j := by
  obtain ⟨j, h1, h2⟩ := rz_nat (x := x) (n := n + 1) (by omega) ⟨h.1, by omega⟩
  exact ⟨j, by omega, h2⟩
/-- the first place of x among d from k on -/
def rz_fnd (f : Nat → Int32) (x : Int32) : Nat → Nat → Int32
  | 0, _ => -1
  | d + 1, k => if f k = x then nI k else rz_fnd f x d (k + 1)
theorem rz_fnd_congr {f g : Nat → Int32} {x : Int32} : ∀ (d k : Nat), (∀ j, k ≤ j → j < k + d → f j = g j) → rz_fnd f x d k = rz_fnd g x d k
  | 0, _, _ => rfl
  | d + 1, k, h => by
    unfold rz_fnd
    rw [h k (Nat.le_refl _) (by omega), rz_fnd_congr d (k + 1) (fun j h1 h2 => h j (by omega) (by omega))]
theorem rz_fnd_spec {f : Nat → Int32} {x : Int32} : ∀ (d k : Nat), (∃ j, k ≤ j ∧ j < k + d ∧ f j = x ∧ rz_fnd f x d k = nI j ∧ ∀ i, k ≤ i → i < j → f i ≠ x) ∨ (rz_fnd f x d k = -1 ∧ ∀ i, k ≤ i → i < k + d → f i ≠ x)
  | 0, k => Or.inr ⟨rfl, fun i h1 h2 => by omega⟩
  | d + 1, k => by
    unfold rz_fnd
    by_cases h : f k = x
    · rw [if_pos h]
      exact Or.inl ⟨k, Nat.le_refl _, by omega, h, rfl, fun i h1 h2 => by omega⟩
    · rw [if_neg h]
      rcases rz_fnd_spec (f := f) (x := x) d (k + 1) with ⟨j, h1, h2, h3, h4, h5⟩ | ⟨h1, h2⟩
      · refine Or.inl ⟨j, by omega, by omega, h3, h4, fun i g1 g2 => ?_⟩
        by_cases q : i = k
        · subst q; exact h
        · exact h5 i (by omega) g2
      · refine Or.inr ⟨h1, fun i g1 g2 => ?_⟩
        by_cases q : i = k
        · subst q; exact h
        · exact h2 i (by omega) (by omega)
theorem rz_find17 (σ : ra_S) (x : Int32) {n : Nat} (hn : n ≤ 8) : ra_C 137 [.ref 17, .int (nI n), .int x] σ = ra_I (rz_fnd (σ.1 17) x n 0) σ := by
  have loop : ∀ d k, k + d = n → ra_D (ra_lay, none, 99999, ra_m137) 2 [some (.ref 17), some (.int (nI n)), some (.int x), some (.int (nI k))] [] σ = ra_I (rz_fnd (σ.1 17) x d k) σ := by
    intro d
    induction d with
    | zero => intro k hk; rw [e_137_2, if_neg (nI_nlt (by omega) (by omega))]; rfl
    | succ d ih =>
      intro k hk
      rw [e_137_2, if_pos (nI_lt (by omega) (by omega)), if_pos (show nI k < (8 : Int32) from nI_lt (a := k) (b := 8) (by omega) (by omega)), if_pos (by rw [nI_toInt (by omega)]; omega), nI_clamp (by omega), nI_1]
      unfold rz_fnd
      by_cases h : σ.1 17 k = x
      · rw [if_pos h, if_pos h]
      · rw [if_neg h, if_neg h]; exact ih (k + 1) (by omega)
  rw [e_137]
  exact loop n 0 (by omega)
theorem rz_find12 (σ : ra_S) (x : Int32) {n : Nat} (hn : n ≤ 6) : ra_C 137 [.ref 12, .int (nI n), .int x] σ = ra_I (rz_fnd (σ.1 12) x n 0) σ := by
  have loop : ∀ d k, k + d = n → ra_D (ra_lay, none, 99999, ra_m137) 2 [some (.ref 12), some (.int (nI n)), some (.int x), some (.int (nI k))] [] σ = ra_I (rz_fnd (σ.1 12) x d k) σ := by
    intro d
    induction d with
    | zero => intro k hk; rw [e_137b_2, if_neg (nI_nlt (by omega) (by omega))]; rfl
    | succ d ih =>
      intro k hk
      rw [e_137b_2, if_pos (nI_lt (by omega) (by omega)), if_pos (show nI k < (6 : Int32) from nI_lt (a := k) (b := 6) (by omega) (by omega)), if_pos (by rw [nI_toInt (by omega)]; omega), nI_clamp (by omega), nI_1]
      unfold rz_fnd
      by_cases h : σ.1 12 k = x
      · rw [if_pos h, if_pos h]
      · rw [if_neg h, if_neg h]; exact ih (k + 1) (by omega)
  rw [e_137b]
  exact loop n 0 (by omega)
theorem rz_find36 (σ : ra_S) (x : Int32) {n : Nat} (hn : n ≤ 8) : ra_C 137 [.ref 36, .int (nI n), .int x] σ = ra_I (rz_fnd (σ.1 36) x n 0) σ := by
  have loop : ∀ d k, k + d = n → ra_D (ra_lay, none, 99999, ra_m137) 2 [some (.ref 36), some (.int (nI n)), some (.int x), some (.int (nI k))] [] σ = ra_I (rz_fnd (σ.1 36) x d k) σ := by
    intro d
    induction d with
    | zero => intro k hk; rw [e_137c_2, if_neg (nI_nlt (by omega) (by omega))]; rfl
    | succ d ih =>
      intro k hk
      rw [e_137c_2, if_pos (nI_lt (by omega) (by omega)), if_pos (show nI k < (8 : Int32) from nI_lt (a := k) (b := 8) (by omega) (by omega)), if_pos (by rw [nI_toInt (by omega)]; omega), nI_clamp (by omega), nI_1]
      unfold rz_fnd
      by_cases h : σ.1 36 k = x
      · rw [if_pos h, if_pos h]
      · rw [if_neg h, if_neg h]; exact ih (k + 1) (by omega)
  rw [e_137c]
  exact loop n 0 (by omega)
theorem rz_find4 (σ : ra_S) (x : Int32) {n : Nat} (hn : n ≤ 11) : ra_C 137 [.ref 4, .int (nI n), .int x] σ = ra_I (rz_fnd (σ.1 4) x n 0) σ := by
  have loop : ∀ d k, k + d = n → ra_D (ra_lay, none, 99999, ra_m137) 2 [some (.ref 4), some (.int (nI n)), some (.int x), some (.int (nI k))] [] σ = ra_I (rz_fnd (σ.1 4) x d k) σ := by
    intro d
    induction d with
    | zero => intro k hk; rw [e_137d_2, if_neg (nI_nlt (by omega) (by omega))]; rfl
    | succ d ih =>
      intro k hk
      rw [e_137d_2, if_pos (nI_lt (by omega) (by omega)), if_pos (show nI k < (11 : Int32) from nI_lt (a := k) (b := 11) (by omega) (by omega)), if_pos (by rw [nI_toInt (by omega)]; omega), nI_clamp (by omega), nI_1]
      unfold rz_fnd
      by_cases h : σ.1 4 k = x
      · rw [if_pos h, if_pos h]
      · rw [if_neg h, if_neg h]; exact ih (k + 1) (by omega)
  rw [e_137d]
  exact loop n 0 (by omega)
theorem rz_find31 (σ : ra_S) (x : Int32) {n : Nat} (hn : n ≤ 6) : ra_C 137 [.ref 31, .int (nI n), .int x] σ = ra_I (rz_fnd (σ.1 31) x n 0) σ := by
  have loop : ∀ d k, k + d = n → ra_D (ra_lay, none, 99999, ra_m137) 2 [some (.ref 31), some (.int (nI n)), some (.int x), some (.int (nI k))] [] σ = ra_I (rz_fnd (σ.1 31) x d k) σ := by
    intro d
    induction d with
    | zero => intro k hk; rw [e_137e_2, if_neg (nI_nlt (by omega) (by omega))]; rfl
    | succ d ih =>
      intro k hk
      rw [e_137e_2, if_pos (nI_lt (by omega) (by omega)), if_pos (show nI k < (6 : Int32) from nI_lt (a := k) (b := 6) (by omega) (by omega)), if_pos (by rw [nI_toInt (by omega)]; omega), nI_clamp (by omega), nI_1]
      unfold rz_fnd
      by_cases h : σ.1 31 k = x
      · rw [if_pos h, if_pos h]
      · rw [if_neg h, if_neg h]; exact ih (k + 1) (by omega)
  rw [e_137e]
  exact loop n 0 (by omega)
theorem rz_mfind90 (σ : ra_S) (x : Int32) {fr n : Nat} (hn : fr + n ≤ 12) : ra_C 158 [.ref 90, .int (nI fr), .int (nI n), .int x] σ = ra_I (rz_fnd (fun k => σ.1 90 (fr + k)) x n 0) σ := by
  have loop : ∀ d k, k + d = n → ra_D (ra_lay, none, 99999, ra_m158) 3 [some (.ref 90), some (.int (nI fr)), some (.int (nI n)), some (.int x), some (.int (nI k))] [] σ = ra_I (rz_fnd (fun k => σ.1 90 (fr + k)) x d k) σ := by
    intro d
    induction d with
    | zero => intro k hk; rw [e_158_3, if_neg (nI_nlt (by omega) (by omega))]; rfl
    | succ d ih =>
      intro k hk
      rw [e_158_3, if_pos (nI_lt (by omega) (by omega)), nI_add, if_pos (by rw [nI_toInt (by omega)]; omega), nI_clamp (by omega), nI_1]
      unfold rz_fnd
      by_cases h : σ.1 90 (fr + k) = x
      · rw [if_pos h, if_pos h]
      · rw [if_neg h, if_neg h]; exact ih (k + 1) (by omega)
  rw [e_158]
  exact loop n 0 (by omega)
theorem rz_mfind92 (σ : ra_S) (x : Int32) {fr n : Nat} (hn : fr + n ≤ 16) : ra_C 158 [.ref 92, .int (nI fr), .int (nI n), .int x] σ = ra_I (rz_fnd (fun k => σ.1 92 (fr + k)) x n 0) σ := by
  have loop : ∀ d k, k + d = n → ra_D (ra_lay, none, 99999, ra_m158) 3 [some (.ref 92), some (.int (nI fr)), some (.int (nI n)), some (.int x), some (.int (nI k))] [] σ = ra_I (rz_fnd (fun k => σ.1 92 (fr + k)) x d k) σ := by
    intro d
    induction d with
    | zero => intro k hk; rw [e_158b_3, if_neg (nI_nlt (by omega) (by omega))]; rfl
    | succ d ih =>
      intro k hk
      rw [e_158b_3, if_pos (nI_lt (by omega) (by omega)), nI_add, if_pos (by rw [nI_toInt (by omega)]; omega), nI_clamp (by omega), nI_1]
      unfold rz_fnd
      by_cases h : σ.1 92 (fr + k) = x
      · rw [if_pos h, if_pos h]
      · rw [if_neg h, if_neg h]; exact ih (k + 1) (by omega)
  rw [e_158b]
  exact loop n 0 (by omega)
theorem rz_mfind97 (σ : ra_S) (x : Int32) {fr n : Nat} (hn : fr + n ≤ 64) : ra_C 158 [.ref 97, .int (nI fr), .int (nI n), .int x] σ = ra_I (rz_fnd (fun k => σ.1 97 (fr + k)) x n 0) σ := by
  have loop : ∀ d k, k + d = n → ra_D (ra_lay, none, 99999, ra_m158) 3 [some (.ref 97), some (.int (nI fr)), some (.int (nI n)), some (.int x), some (.int (nI k))] [] σ = ra_I (rz_fnd (fun k => σ.1 97 (fr + k)) x d k) σ := by
    intro d
    induction d with
    | zero => intro k hk; rw [e_158c_3, if_neg (nI_nlt (by omega) (by omega))]; rfl
    | succ d ih =>
      intro k hk
      rw [e_158c_3, if_pos (nI_lt (by omega) (by omega)), nI_add, if_pos (by rw [nI_toInt (by omega)]; omega), nI_clamp (by omega), nI_1]
      unfold rz_fnd
      by_cases h : σ.1 97 (fr + k) = x
      · rw [if_pos h, if_pos h]
      · rw [if_neg h, if_neg h]; exact ih (k + 1) (by omega)
  rw [e_158c]
  exact loop n 0 (by omega)
theorem rz_beginOf {τ : ra_S} {nb n : Nat} {len : Nat → Nat} (hlen : ∀ k, k < nb → τ.1 89 k = nI (len k)) (hn : n ≤ nb) (hb : nb ≤ 40) : ra_C 182 [.ref 86, .int (nI n)] τ = ra_I (nI (rz_sum len n)) τ := by
  have loop : ∀ d k, k + d = n → ra_D (ra_lay, none, 99999, ra_m182) 4 [some (.ref 86), some (.int (nI n)), some (.int (nI (rz_sum len k))), some (.int (nI k))] [] τ = ra_I (nI (rz_sum len n)) τ := by
    intro d
    induction d with
    | zero => intro k hk; rw [e_182_4, if_neg (nI_nlt (by omega) (by omega))]; have : k = n := by omega
              subst this; rfl
    | succ d ih =>
      intro k hk
      rw [e_182_4, if_pos (nI_lt (by omega) (by omega)), if_pos (by rw [nI_toInt (by omega)]; omega), nI_clamp (by omega), hlen k (by omega), nI_add, nI_1]
      exact ih (k + 1) (by omega)
  rw [e_182]
  exact loop n 0 (by omega)
-- ===== the calls =====
theorem rz_fault {σ : ra_S} (h : rz_R σ) (a : Int32) : rz_OI 79 171 [.int a] σ := by
  obtain ⟨np, nb, nl, nw, ku, tp, nn, tc, -, -, -, -, -, -, -, -, ht, -⟩ := id h
  obtain ⟨-, -, -, -, h1, h2, -⟩ := ht
  refine ⟨if a = 0 then σ.1 1 2 else if a = 1 then σ.1 1 3 else -1, σ, ra_ui σ 86 2 0, ?_, ?_, rz_R_ui rfl h⟩
  · rw [e_79]; repeat' split
    all_goals rfl
  · rw [e_171, h1, h2]; repeat' split
    all_goals rfl
theorem rz_known_eq {σ : ra_S} {np nb nn : Nat} (h : rz_notes np nb nn σ) : ra_C 11 [.ref 56] σ = ra_I (if σ.1 86 48 = -1 then nI nn else σ.1 86 48) σ ∧ ra_C 223 [.ref 86] σ = ra_I (if σ.1 86 48 = -1 then nI nn else σ.1 86 48) σ := by
  obtain ⟨h1, h2, h3, h4, h5, -⟩ := h
  rw [e_11, e_223, h1, h2, h4]
  constructor
  · split <;> rfl
  · by_cases q : σ.1 86 48 = -1
    · rw [q]; rfl
    · rw [if_neg q, if_neg]
      rw [Int32.lt_iff_toInt_lt]
      intro z
      apply q
      apply Int32.toInt_inj.mp
      show _ = (-1 : Int)
      have : (0 : Int32).toInt = 0 := rfl
      omega
theorem rz_count {σ : ra_S} (h : rz_R σ) (a : Int32) : rz_OI 83 245 [.int a] σ := by
  obtain ⟨np, nb, nl, nw, ku, tp, nn, tc, hc, -, -, -, -, -, hu, hn, -, -⟩ := id h
  obtain ⟨⟨c1, c2, -⟩, ⟨c3, c4, -⟩, ⟨c5, c6, -⟩, ⟨c7, c8, -⟩, c9, c10⟩ := id hc
  obtain ⟨u1, u2, -⟩ := id hu
  obtain ⟨n1, n2, -⟩ := id hn
  have hk := rz_known_eq hn
  have hk2 := (rz_known_eq (σ := ra_ui σ 86 2 0) (np := np) (nb := nb) (nn := nn) hn).2
  rw [show (ra_ui σ 86 2 0).1 86 48 = σ.1 86 48 from rfl] at hk2
  refine ⟨if a = 0 then nI nl else if a = 1 then nI np else if a = 2 then nI nb else if a = 3 then nI nw else if a = 4 then nI nn else if a = 5 then (if σ.1 86 48 = -1 then nI nn else σ.1 86 48) else if a = 6 then nI ku else if a = 7 then σ.1 86 16 else if a = 8 then σ.1 86 17 else -1, σ, ra_ui σ 86 2 0, ?_, ?_, rz_R_ui rfl h⟩
  · rw [e_83, hk.1, ra_kI, c1, c3, c5, c7, c9, c10, u1, n1]
    repeat' split
    all_goals rfl
  · rw [e_245, hk2, ra_kI, c2, c4, c6, c8, u2, n2]
    repeat' split
    all_goals first | rfl | simp_all
theorem rz_begin {σ : ra_S} (h : rz_R σ) (a : Int32) : rz_OI 84 183 [.int a] σ := by
  obtain ⟨np, nb, nl, nw, ku, tp, nn, tc, hc, -, -, hbt, -, -, -, -, -, -⟩ := id h
  obtain ⟨-, ⟨c3, c4, c5⟩, -⟩ := hc
  obtain ⟨len, b1, b2, b3⟩ := hbt
  have t0 : (nI nb).toInt = nb := nI_toInt (by omega)
  by_cases hz : nb = 0
  · subst hz
    refine ⟨-1, σ, ra_ui σ 86 2 0, ?_, ?_, rz_R_ui rfl h⟩
    · rw [e_84, c3]; rfl
    · rw [e_183, c4]; rfl
  · by_cases hin : 0 ≤ a.toInt ∧ a.toInt ≤ nb
    · obtain ⟨n, hn, rfl⟩ := rz_nat' (by omega) hin
      have t1 : (nI n).toInt = n := nI_toInt (by omega)
      refine ⟨nI (rz_sum len n), σ, ra_ui σ 86 2 0, ?_, ?_, rz_R_ui rfl h⟩
      · rw [e_84, c3, if_neg (nI_ne0 (by omega) (by omega)), ra_c_within, ra_kI, if_neg (by rw [ra_b0, t0, t1]; simp; omega), if_neg (show ¬ (40 : Int32) < nI n from nI_nlt (a := 40) (by omega) (by omega)), if_pos (by rw [t1]; omega), nI_clamp (by omega), b2 n hn]
      · rw [e_183, c4, if_pos (show (0 : Int32) < nI nb from nI_lt (a := 0) (b := nb) (by omega) (by omega)), ra_m_isIn, ra_kI, if_neg (by rw [ra_b0, t0, t1]; simp; omega), rz_beginOf (τ := ra_ui σ 86 2 0) (fun k hk => by rw [ra_ui_1 89 (by decide)]; exact b1 k hk) hn c5, ra_kI]
    · refine ⟨-1, σ, ra_ui σ 86 2 0, ?_, ?_, rz_R_ui rfl h⟩
      · rw [e_84, c3, if_neg (nI_ne0 (by omega) (by omega)), ra_c_within, ra_kI, if_pos (by rw [ra_b0, t0]; exact hin)]
      · rw [e_183, c4, if_pos (show (0 : Int32) < nI nb from nI_lt (a := 0) (b := nb) (by omega) (by omega)), ra_m_isIn, ra_kI, if_pos (by rw [ra_b0, t0]; exact hin)]
theorem rz_named {σ : ra_S} (h : rz_R σ) (a b : Int32) : rz_OI 80 172 [.int a, .int b] σ := by
  obtain ⟨np, nb, nl, nw, ku, tp, nn, tc, hc, hl, hp, -⟩ := id h
  obtain ⟨⟨c1, c2, c3⟩, -, ⟨c5, c6, c7⟩, -⟩ := hc
  have f1 := rz_find12 σ b c7
  have f2 := rz_find17 σ b c3
  have g1 := rz_mfind90 (ra_ui σ 86 2 0) b (fr := 0) (n := nl) (by omega)
  have g2 := rz_mfind92 (ra_ui σ 86 2 0) b (fr := 0) (n := np) (by omega)
  rw [nI_0] at g1 g2
  have e1 : rz_fnd (fun k => (ra_ui σ 86 2 0).1 90 (0 + k)) b nl 0 = rz_fnd (σ.1 12) b nl 0 := rz_fnd_congr _ _ (fun j _ hj => by rw [ra_ui_1 90 (by decide), Nat.zero_add]; exact ((hl j (by omega)).1).symm)
  have e2 : rz_fnd (fun k => (ra_ui σ 86 2 0).1 92 (0 + k)) b np 0 = rz_fnd (σ.1 17) b np 0 := rz_fnd_congr _ _ (fun j _ hj => by rw [ra_ui_1 92 (by decide), Nat.zero_add]; exact ((hp j (by omega)).1).symm)
  rw [e1] at g1
  rw [e2] at g2
  refine ⟨if a = 0 then rz_fnd (σ.1 12) b nl 0 else if a = 1 then rz_fnd (σ.1 17) b np 0 else -1, σ, ra_ui σ 86 2 0, ?_, ?_, rz_R_ui rfl h⟩
  · rw [e_80, c1, c5, f1, f2, ra_kI, ra_kI]
    repeat' split
    all_goals rfl
  · rw [e_172, c2, c6, g1, g2, ra_kI, ra_kI]
    repeat' split
    all_goals rfl
