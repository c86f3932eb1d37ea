-- ===== text: the letters of a word =====
def rz_run (P : Nat → Prop) [DecidablePred P] : Nat → Nat → Nat
  | 0, i => i
  | d + 1, i => if P i then rz_run P d (i + 1) else i
theorem rz_run_le (P : Nat → Prop) [DecidablePred P] : ∀ d i, i ≤ rz_run P d i ∧ rz_run P d i ≤ i + d
  | 0, i => ⟨Nat.le_refl _, Nat.le_refl _⟩
  | d + 1, i => by
    have := rz_run_le P d (i + 1)
    rw [rz_run]
    split <;> omega
theorem rz_run_in (P : Nat → Prop) [DecidablePred P] : ∀ d i k, i ≤ k → k < rz_run P d i → P k
  | 0, i, k, h1, h2 => by unfold rz_run at h2; omega
  | d + 1, i, k, h1, h2 => by
    rw [rz_run] at h2
    by_cases z : P i
    · rw [if_pos z] at h2
      by_cases y : k = i
      · rw [y]; exact z
      · exact rz_run_in P d (i + 1) k (by omega) h2
    · rw [if_neg z] at h2; omega
theorem rz_run_out (P : Nat → Prop) [DecidablePred P] : ∀ d i, rz_run P d i < i + d → ¬ P (rz_run P d i)
  | 0, i, h => by unfold rz_run at h; omega
  | d + 1, i, h => by
    rw [rz_run] at h ⊢
    by_cases z : P i
    · rw [if_pos z] at h ⊢
      exact rz_run_out P d (i + 1) (by omega)
    · rw [if_neg z]; exact z
abbrev rz_isB (t : Nat → Nat) (i : Nat) : Prop := t i = 32 ∨ t i = 10
abbrev rz_isL (t : Nat → Nat) (i : Nat) : Prop := 97 ≤ t i ∧ t i ≤ 122
abbrev rz_isN (t : Nat → Nat) (i : Nat) : Prop := 48 ≤ t i ∧ t i ≤ 57
/-- the digit m of a word of n letters from a on -/
def rz_dg (t : Nat → Nat) (a n m : Nat) : Nat := if m < n then t (a + m) - 96 else 0
def rz_pk (t : Nat → Nat) (a n : Nat) : Nat := rz_dg t a n 0 * 33554432 + rz_dg t a n 1 * 1048576 + rz_dg t a n 2 * 32768 + rz_dg t a n 3 * 1024 + rz_dg t a n 4 * 32 + rz_dg t a n 5
theorem rz_pk0 (t : Nat → Nat) (a : Nat) : rz_pk t a 0 = 0 := by
  have : ∀ m, rz_dg t a 0 m = 0 := fun m => if_neg (Nat.not_lt_zero _)
  unfold rz_pk
  rw [this, this, this, this, this, this]
theorem rz_pk6 (t : Nat → Nat) (a : Nat) {n : Nat} (h : 6 ≤ n) : rz_pk t a n = rz_pk t a 6 := by
  have : ∀ m, m < 6 → rz_dg t a n m = rz_dg t a 6 m := fun m hm => by unfold rz_dg; rw [if_pos (by omega), if_pos hm]
  unfold rz_pk
  rw [this 0 (by omega), this 1 (by omega), this 2 (by omega), this 3 (by omega), this 4 (by omega), this 5 (by omega)]
theorem rz_sh32 : ∀ (l : Fin 32) (k : Fin 6), nI l.val <<< (((5 : Int32) * (5 - nI k.val)) &&& 31) = nI (l.val * 2 ^ (5 * (5 - k.val))) := by decide +kernel
theorem rz_sh5 (x : Nat) : nI x <<< ((5 : Int32) &&& 31) = nI (x * 32) := by
  show Int32.ofNat x <<< ((5 : Int32) &&& 31) = Int32.ofNat (x * 32)
  have : (5 : Int32) &&& 31 = 5 := by decide
  rw [this]
  apply Int32.toBitVec_inj.mp
  rw [Int32.toBitVec_shiftLeft]
  simp only [Int32.toBitVec_ofNat', BitVec.shiftLeft_eq']
  rw [show (BitVec.smod (Int32.toBitVec 5) 32).toNat = 5 from rfl]
  apply BitVec.eq_of_toNat_eq
  rw [BitVec.toNat_shiftLeft, BitVec.toNat_ofNat, BitVec.toNat_ofNat, Nat.shiftLeft_eq]
  omega
/-- disjoint bits -/
theorem rz_or_add {q b k : Nat} (h : b < 2 ^ k) : 2 ^ k * q ||| b = 2 ^ k * q + b := (Nat.two_pow_add_eq_or_of_lt h q).symm
theorem rz_pk_or (t : Nat → Nat) (a : Nat) {k : Nat} (hk : k < 6) (hl : t (a + k) ≤ 122) : nI (rz_pk t a k) ||| nI ((t (a + k) - 96) * 2 ^ (5 * (5 - k))) = nI (rz_pk t a (k + 1)) := by
  have l : t (a + k) - 96 < 32 := by omega
  rw [rz_orN32]
  congr 1
  have key : ∀ {q b m : Nat}, b < 2 ^ m → 2 ^ m * q ||| b = 2 ^ m * q + b := fun h => rz_or_add h
  rcases (show k = 0 ∨ k = 1 ∨ k = 2 ∨ k = 3 ∨ k = 4 ∨ k = 5 by omega) with rfl | rfl | rfl | rfl | rfl | rfl
  · have := key (q := 0) (b := (t (a + 0) - 96) * 2 ^ 25) (m := 30) (by omega)
    unfold rz_pk rz_dg
    simp only [Nat.reduceLT, Nat.reduceAdd, if_true, if_false, Nat.reduceMul, Nat.reduceSub, Nat.zero_mul, Nat.zero_or, Nat.add_zero, Nat.reducePow, Nat.not_lt_zero]
  · have := key (q := t (a + 0) - 96) (b := (t (a + 1) - 96) * 2 ^ 20) (m := 25) (by omega)
    unfold rz_pk rz_dg
    simp only [Nat.reduceLT, Nat.reduceAdd, if_true, if_false, Nat.reduceMul, Nat.reduceSub, Nat.zero_mul, Nat.add_zero, Nat.reducePow, Nat.lt_irrefl] at this ⊢
    rw [Nat.mul_comm _ 33554432]; exact this
  · have := key (q := (t (a + 0) - 96) * 32 + (t (a + 1) - 96)) (b := (t (a + 2) - 96) * 2 ^ 15) (m := 20) (by omega)
    unfold rz_pk rz_dg
    simp only [Nat.reduceLT, Nat.reduceAdd, if_true, if_false, Nat.reduceMul, Nat.reduceSub, Nat.zero_mul, Nat.add_zero, Nat.reducePow, Nat.lt_irrefl] at this ⊢
    rw [show 1048576 * ((t a - 96) * 32 + (t (a + 1) - 96)) = (t a - 96) * 33554432 + (t (a + 1) - 96) * 1048576 by omega] at this
    exact this
  · have := key (q := (t (a + 0) - 96) * 1024 + (t (a + 1) - 96) * 32 + (t (a + 2) - 96)) (b := (t (a + 3) - 96) * 2 ^ 10) (m := 15) (by omega)
    unfold rz_pk rz_dg
    simp only [Nat.reduceLT, Nat.reduceAdd, if_true, if_false, Nat.reduceMul, Nat.reduceSub, Nat.zero_mul, Nat.add_zero, Nat.reducePow, Nat.lt_irrefl] at this ⊢
    rw [show 32768 * ((t a - 96) * 1024 + (t (a + 1) - 96) * 32 + (t (a + 2) - 96)) = (t a - 96) * 33554432 + (t (a + 1) - 96) * 1048576 + (t (a + 2) - 96) * 32768 by omega] at this
    exact this
  · have := key (q := (t (a + 0) - 96) * 32768 + (t (a + 1) - 96) * 1024 + (t (a + 2) - 96) * 32 + (t (a + 3) - 96)) (b := (t (a + 4) - 96) * 2 ^ 5) (m := 10) (by omega)
    unfold rz_pk rz_dg
    simp only [Nat.reduceLT, Nat.reduceAdd, if_true, if_false, Nat.reduceMul, Nat.reduceSub, Nat.zero_mul, Nat.add_zero, Nat.reducePow, Nat.lt_irrefl] at this ⊢
    rw [show 1024 * ((t a - 96) * 32768 + (t (a + 1) - 96) * 1024 + (t (a + 2) - 96) * 32 + (t (a + 3) - 96)) = (t a - 96) * 33554432 + (t (a + 1) - 96) * 1048576 + (t (a + 2) - 96) * 32768 + (t (a + 3) - 96) * 1024 by omega] at this
    exact this
  · have := key (q := (t (a + 0) - 96) * 1048576 + (t (a + 1) - 96) * 32768 + (t (a + 2) - 96) * 1024 + (t (a + 3) - 96) * 32 + (t (a + 4) - 96)) (b := (t (a + 5) - 96) * 2 ^ 0) (m := 5) (by omega)
    unfold rz_pk rz_dg
    simp only [Nat.reduceLT, Nat.reduceAdd, if_true, if_false, Nat.reduceMul, Nat.reduceSub, Nat.zero_mul, Nat.add_zero, Nat.reducePow, Nat.lt_irrefl, Nat.mul_one] at this ⊢
    rw [show 32 * ((t a - 96) * 1048576 + (t (a + 1) - 96) * 32768 + (t (a + 2) - 96) * 1024 + (t (a + 3) - 96) * 32 + (t (a + 4) - 96)) = (t a - 96) * 33554432 + (t (a + 1) - 96) * 1048576 + (t (a + 2) - 96) * 32768 + (t (a + 3) - 96) * 1024 + (t (a + 4) - 96) * 32 by omega] at this
    exact this
/-- the words of the reference: where each begins, how long it is, its number with the class -/
def rz_wtab : List (Nat × Nat × Nat) := [(0, 5, 0), (6, 4, 1), (11, 5, 3), (17, 3, 4), (21, 6, 6), (28, 5, 10), (34, 5, 2), (40, 5, 5), (46, 4, 7), (51, 5, 8), (57, 5, 9)]
abbrev rz_wf (w : Nat) : Nat := (rz_wtab.getD w (0, 0, 0)).1
abbrev rz_wl (w : Nat) : Nat := (rz_wtab.getD w (0, 0, 0)).2.1
abbrev rz_wc (w : Nat) : Nat := (rz_wtab.getD w (0, 0, 0)).2.2
abbrev rz_wch (i : Nat) : Nat := (rz_chars.getD i 0).toNatClampNeg
/-- the word w stands at a, n letters long -/
def rz_eqw (t : Nat → Nat) (a n w : Nat) : Prop := n = rz_wl w ∧ ∀ m, m < n → t (a + m) = rz_wch (rz_wf w + m)
theorem rz_wch_nI : ∀ i : Fin 63, rz_chars.getD i.val 0 = nI (rz_wch i.val) := by decide +kernel
/-- a packed word, and the word itself -/
theorem rz_wpk : ∀ w : Fin 11, rz_words.getD (rz_wc w.val) 0 = nI (rz_pk (fun i => rz_wch i) (rz_wf w.val) (rz_wl w.val)) := by decide +kernel
theorem rz_wok : ∀ w : Fin 11, rz_wl w.val ≤ 6 ∧ 1 ≤ rz_wl w.val ∧ rz_wf w.val + rz_wl w.val < 63 ∧ (∀ m : Fin 6, m.val < rz_wl w.val → 97 ≤ rz_wch (rz_wf w.val + m.val) ∧ rz_wch (rz_wf w.val + m.val) ≤ 122) ∧ rz_wch (rz_wf w.val + rz_wl w.val) = 32 := by decide +kernel
theorem rz_dg_eq {t u : Nat → Nat} {a b n k : Nat} (hn : n ≤ 6) (hk : k ≤ 6) (h1 : ∀ m, m < n → 97 ≤ t (a + m) ∧ t (a + m) ≤ 122) (h2 : ∀ m, m < k → 97 ≤ u (b + m) ∧ u (b + m) ≤ 122) (h : rz_pk t a n = rz_pk u b k) : n = k ∧ ∀ m, m < n → t (a + m) = u (b + m) := by
  have d1 : ∀ m, rz_dg t a n m < 32 := fun m => by
    unfold rz_dg
    split
    · have := h1 m (by assumption); omega
    · omega
  have d2 : ∀ m, rz_dg u b k m < 32 := fun m => by
    unfold rz_dg
    split
    · have := h2 m (by assumption); omega
    · omega
  have e : ∀ m, m < 6 → rz_dg t a n m = rz_dg u b k m := by
    unfold rz_pk at h
    have p0 := d1 0; have p1 := d1 1; have p2 := d1 2; have p3 := d1 3; have p4 := d1 4; have p5 := d1 5
    have q0 := d2 0; have q1 := d2 1; have q2 := d2 2; have q3 := d2 3; have q4 := d2 4; have q5 := d2 5
    intro m hm
    rcases (show m = 0 ∨ m = 1 ∨ m = 2 ∨ m = 3 ∨ m = 4 ∨ m = 5 by omega) with rfl | rfl | rfl | rfl | rfl | rfl <;> omega
  have nz1 : ∀ m, m < n → rz_dg t a n m ≠ 0 := fun m hm => by unfold rz_dg; rw [if_pos hm]; have := h1 m hm; omega
  have nz2 : ∀ m, m < k → rz_dg u b k m ≠ 0 := fun m hm => by unfold rz_dg; rw [if_pos hm]; have := h2 m hm; omega
  have nk : n = k := by
    rcases Nat.lt_trichotomy n k with c | c | c
    · have := nz2 n c
      rw [← e n (by omega)] at this
      exact absurd (by unfold rz_dg; rw [if_neg (Nat.lt_irrefl _)]) this
    · exact c
    · have := nz1 k c
      rw [e k (by omega)] at this
      exact absurd (by unfold rz_dg; rw [if_neg (Nat.lt_irrefl _)]) this
  subst nk
  refine ⟨rfl, fun m hm => ?_⟩
  have := e m (by omega)
  unfold rz_dg at this
  rw [if_pos hm, if_pos hm] at this
  have := h1 m hm
  have := h2 m hm
  omega
theorem rz_pk_lt {t : Nat → Nat} {a n : Nat} (h : ∀ m, m < n → t (a + m) ≤ 122) : rz_pk t a n < 1073741824 := by
  have d1 : ∀ m, rz_dg t a n m < 32 := fun m => by
    unfold rz_dg
    split
    · have := h m (by assumption); omega
    · omega
  have p0 := d1 0; have p1 := d1 1; have p2 := d1 2; have p3 := d1 3; have p4 := d1 4; have p5 := d1 5
  unfold rz_pk
  omega
theorem rz_nI_inj {a b : Nat} (ha : a < 2147483648) (hb : b < 2147483648) (h : nI a = nI b) : a = b := by
  have : (nI a).toNatClampNeg = (nI b).toNatClampNeg := by rw [h]
  rwa [nI_clamp ha, nI_clamp hb] at this
theorem rz_eqw_iff {t : Nat → Nat} {a n w : Nat} (hw : w < 11) (hn : n ≤ 6) (h : ∀ m, m < n → 97 ≤ t (a + m) ∧ t (a + m) ≤ 122) : rz_eqw t a n w ↔ rz_words.getD (rz_wc w) 0 = nI (rz_pk t a n) := by
  obtain ⟨k1, k2, k3, k4, k5⟩ := rz_wok ⟨w, hw⟩
  have k6 := rz_wpk ⟨w, hw⟩
  dsimp only at k1 k2 k3 k4 k5 k6
  have hu : ∀ m, m < rz_wl w → 97 ≤ rz_wch (rz_wf w + m) ∧ rz_wch (rz_wf w + m) ≤ 122 := fun m hm => k4 ⟨m, by omega⟩ hm
  rw [k6]
  constructor
  · rintro ⟨e1, e2⟩
    subst e1
    refine congrArg nI ?_
    have : ∀ m, rz_dg (fun i => rz_wch i) (rz_wf w) (rz_wl w) m = rz_dg t a (rz_wl w) m := fun m => by
      unfold rz_dg
      by_cases z : m < rz_wl w
      · rw [if_pos z, if_pos z, e2 m z]
      · rw [if_neg z, if_neg z]
    unfold rz_pk
    rw [this, this, this, this, this, this]
  · intro e
    have e' := rz_nI_inj (by have := rz_pk_lt (t := fun i => rz_wch i) (a := rz_wf w) (n := rz_wl w) (fun m hm => (hu m hm).2); omega) (by have := rz_pk_lt (t := t) (a := a) (n := n) (fun m hm => (h m hm).2); omega) e
    exact rz_dg_eq hn k1 h hu e'.symm
