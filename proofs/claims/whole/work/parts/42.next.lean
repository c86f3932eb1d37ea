-- ===== groups of like entries; next =====
def rz_mxn (f : Nat → Nat) : Nat → Nat
  | 0 => 0
  | n + 1 => if rz_mxn f n < f n then f n else rz_mxn f n
theorem rz_mxn_le (f : Nat → Nat) {k : Nat} : ∀ n, k < n → f k ≤ rz_mxn f n
  | 0, h => by omega
  | n + 1, h => by
    rw [rz_mxn]
    by_cases z : k = n
    · subst z; split <;> omega
    · have := rz_mxn_le f (k := k) n (by omega)
      split <;> omega
theorem rz_mxn_ex (f : Nat → Nat) : ∀ n, rz_mxn f n = 0 ∨ ∃ k, k < n ∧ rz_mxn f n = f k
  | 0 => Or.inl rfl
  | n + 1 => by
    rw [rz_mxn]
    by_cases z : rz_mxn f n < f n
    · rw [if_pos z]; exact Or.inr ⟨n, by omega, rfl⟩
    · rw [if_neg z]
      rcases rz_mxn_ex f n with q | ⟨k, hk, e⟩
      · exact Or.inl q
      · exact Or.inr ⟨k, by omega, e⟩
theorem rz_dc_mono {Q R : Nat → Bool} (h : ∀ i, Q i = true → R i = true) {m : Nat} : ∀ n, m ≤ n → rz_dc Q m ≤ rz_dc R n
  | 0, hm => by
    have : m = 0 := by omega
    subst this; exact Nat.le_refl _
  | n + 1, hm => by
    rw [rz_dc]
    by_cases z : m = n + 1
    · subst z
      have := rz_dc_mono h (m := n) n (Nat.le_refl _)
      rw [rz_dc]
      by_cases w : Q n = true
      · rw [if_pos w, if_pos (h n w)]; omega
      · rw [if_neg w]; omega
    · have := rz_dc_mono h (m := m) n (by omega)
      omega
theorem rz_dc_congr {Q R : Nat → Bool} : ∀ n, (∀ i, i < n → Q i = R i) → rz_dc Q n = rz_dc R n
  | 0, _ => rfl
  | n + 1, h => by rw [rz_dc, rz_dc, rz_dc_congr n (fun i hi => h i (by omega)), h n (by omega)]
theorem rz_dc_last {Q : Nat → Bool} {a : Nat} (ha : Q a = true) : ∀ n, a < n → ∃ l, l < n ∧ Q l = true ∧ rz_dc Q n = rz_dc Q (l + 1)
  | 0, h => by omega
  | n + 1, h => by
    by_cases z : Q n = true
    · exact ⟨n, by omega, z, rfl⟩
    · have : a ≠ n := fun y => z (by rw [← y]; exact ha)
      obtain ⟨l, h1, h2, h3⟩ := rz_dc_last ha n (by omega)
      exact ⟨l, by omega, h2, by rw [rz_dc, if_neg z, Nat.add_zero, h3]⟩
theorem rz_grp {P : Nat → Bool} {L : Nat → Nat → Bool} (hr : ∀ a, L a a = true) (hs : ∀ a b, L a b = true → L b a = true) (ht : ∀ a b c, L a b = true → L b c = true → L a c = true) (n : Nat) : rz_mxn (fun l => if P l = true then rz_dc (fun o => P o && L l o) (l + 1) else 0) n = rz_mxn (fun a => rz_dc (fun b => (P a && P b) && L a b) n) n := by
  apply Nat.le_antisymm
  · rcases rz_mxn_ex (fun l => if P l = true then rz_dc (fun o => P o && L l o) (l + 1) else 0) n with q | ⟨l, hl, e⟩
    · rw [q]; exact Nat.zero_le _
    · rw [e]
      by_cases z : P l = true
      · rw [if_pos z]
        refine Nat.le_trans ?_ (rz_mxn_le (fun a => rz_dc (fun b => (P a && P b) && L a b) n) n hl)
        exact rz_dc_mono (fun i hi => by rw [z, Bool.true_and]; exact hi) n (by omega)
      · rw [if_neg z]; exact Nat.zero_le _
  · rcases rz_mxn_ex (fun a => rz_dc (fun b => (P a && P b) && L a b) n) n with q | ⟨a, hl, e⟩
    · rw [q]; exact Nat.zero_le _
    · rw [e]
      by_cases z : P a = true
      · obtain ⟨l, l1, l2, l3⟩ := rz_dc_last (Q := fun b => (P a && P b) && L a b) (a := a) (by rw [z, hr a]; rfl) n hl
        rw [z, Bool.true_and, Bool.and_eq_true] at l2
        rw [l3]
        refine Nat.le_trans (Nat.le_of_eq ?_) (rz_mxn_le (fun l => if P l = true then rz_dc (fun o => P o && L l o) (l + 1) else 0) n l1)
        rw [if_pos l2.1]
        refine rz_dc_congr _ (fun i _ => ?_)
        rw [z, Bool.true_and]
        congr 1
        by_cases y : L a i = true
        · rw [y, ht l a i (hs a l l2.2) y]
        · rw [Bool.eq_false_iff.mpr y]
          by_cases w : L l i = true
          · exact absurd (ht a l i l2.2 w) y
          · rw [Bool.eq_false_iff.mpr w]
      · have : ∀ m, rz_dc (fun b => (P a && P b) && L a b) m = 0 := by
          intro m
          induction m with
          | zero => rfl
          | succ m ih => rw [rz_dc, ih, Bool.eq_false_iff.mpr z]; rfl
        rw [this]; exact Nat.zero_le _
/-- rows alike -/
def rz_al (R : Nat → Nat → Int32) (a b : Nat) : Nat → Nat → Bool
  | 0, _ => true
  | d + 1, k => if R a k = R b k then rz_al R a b d (k + 1) else false
theorem rz_al_sp (R : Nat → Nat → Int32) (a b : Nat) : ∀ d k, rz_al R a b d k = true ↔ ∀ i, k ≤ i → i < k + d → R a i = R b i
  | 0, k => ⟨fun _ i h1 h2 => by omega, fun _ => rfl⟩
  | d + 1, k => by
    rw [rz_al]
    by_cases z : R a k = R b k
    · rw [if_pos z, rz_al_sp R a b d (k + 1)]
      constructor
      · intro h i h1 h2
        by_cases y : i = k
        · rw [y]; exact z
        · exact h i (by omega) (by omega)
      · intro h i h1 h2; exact h i (by omega) (by omega)
    · rw [if_neg z]
      exact ⟨fun h => (by cases h), fun h => absurd (h k (Nat.le_refl _) (by omega)) z⟩
theorem rz_grpR (P : Nat → Bool) (R : Nat → Nat → Int32) (nb n : Nat) : rz_mxn (fun l => if P l = true then rz_dc (fun o => P o && rz_al R l o nb 0) (l + 1) else 0) n = rz_mxn (fun a => rz_dc (fun b => (P a && P b) && rz_al R a b nb 0) n) n :=
  rz_grp (L := fun a b => rz_al R a b nb 0) (fun a => (rz_al_sp R a a nb 0).mpr (fun _ _ _ => rfl)) (fun a b h => (rz_al_sp R b a nb 0).mpr (fun i h1 h2 => ((rz_al_sp R a b nb 0).mp h i h1 h2).symm)) (fun a b c h h' => (rz_al_sp R a c nb 0).mpr (fun i h1 h2 => ((rz_al_sp R a b nb 0).mp h i h1 h2).trans ((rz_al_sp R b c nb 0).mp h' i h1 h2))) n
/-- bits as a number -/
def rz_pn (P : Nat → Bool) : Nat → Nat
  | 0 => 0
  | n + 1 => if P n = true then rz_pn P n ||| 2 ^ n else rz_pn P n
theorem rz_pn_lt (P : Nat → Bool) : ∀ n, rz_pn P n < 2 ^ n
  | 0 => by unfold rz_pn; decide
  | n + 1 => by
    have i := rz_pn_lt P n
    have i2 : rz_pn P n < 2 ^ (n + 1) := Nat.lt_of_lt_of_le i (Nat.pow_le_pow_right (by decide) (by omega))
    rw [rz_pn]
    split
    · exact Nat.or_lt_two_pow i2 (Nat.pow_lt_pow_right (by decide) (by omega))
    · exact i2
theorem rz_pn_bit (P : Nat → Bool) (i : Nat) : ∀ n, (rz_pn P n).testBit i = (decide (i < n) && P i)
  | 0 => by unfold rz_pn; rw [Nat.zero_testBit]; simp
  | n + 1 => by
    have ih := rz_pn_bit P i n
    rw [rz_pn]
    by_cases z : P n = true
    · rw [if_pos z, Nat.testBit_or, Nat.testBit_two_pow, ih]
      by_cases y : i = n
      · subst y; simp [z]
      · have y' : ¬ n = i := fun w => y w.symm
        by_cases w : i < n
        · have : i < n + 1 := by omega
          simp [w, this, y']
        · have : ¬ i < n + 1 := by omega
          simp [w, this, y']
    · rw [if_neg z, ih]
      by_cases y : i = n
      · subst y; simp [Bool.eq_false_iff.mpr z]
      · by_cases w : i < n
        · have : i < n + 1 := by omega
          simp [w, this]
        · have : ¬ i < n + 1 := by omega
          simp [w, this]
theorem rz_ib_pn (P : Nat → Bool) : ∀ n, n ≤ 8 → rz_ib P 0 n = nI (rz_pn P n)
  | 0, _ => rfl
  | n + 1, h => by
    rw [rz_ib, rz_pn, rz_ib_pn P n (by omega), rz_sh8 ⟨n, by omega⟩]
    split
    · rw [rz_orN32]
    · rfl
theorem rz_bit_pn {P : Nat → Bool} {n l : Nat} (hn : n ≤ 8) (hl : l < n) : rz_bit (nI (rz_pn P n)) l = P l := by
  have := rz_pn_lt P n
  have p2 := rz_p2 hn
  rw [rz_bitn (by omega) (by omega), rz_pn_bit, decide_eq_true hl, Bool.true_and]
theorem rz_bit0 : ∀ (n : Fin 256) (l : Fin 8), decide (((nI n.val >>> (nI l.val &&& 31)) &&& (1 : Int32)) = 0) = !rz_bit (nI n.val) l.val := by decide +kernel
-- how many bits
def rz_bc (x : Int32) : Int32 :=
  let a := x - ((x.toUInt32 >>> ((1 : Int32).toUInt32 &&& Int32.toUInt32 31)).toInt32 &&& (1431655765 : Int32))
  let b := (a &&& (858993459 : Int32)) + ((a.toUInt32 >>> ((2 : Int32).toUInt32 &&& Int32.toUInt32 31)).toInt32 &&& (858993459 : Int32))
  let c := (b + (b.toUInt32 >>> ((4 : Int32).toUInt32 &&& Int32.toUInt32 31)).toInt32) &&& (252645135 : Int32)
  let d := c + (c.toUInt32 >>> ((8 : Int32).toUInt32 &&& Int32.toUInt32 31)).toInt32
  let e := d + (d.toUInt32 >>> ((16 : Int32).toUInt32 &&& Int32.toUInt32 31)).toInt32
  e &&& (63 : Int32)
theorem rz_c_bc (σ : ra_S) (x : Int32) : ra_C 246 [.int x] σ = ra_I (rz_bc x) σ := by
  rw [e_246, e_246_10, e_246_24, e_246_34, e_246_41, e_246_48]; rfl
def rz_mo (x : Int32) : Nat → Int32
  | 0 => 0
  | k + 1 => rz_mo x k + ((x >>> (nI k &&& 31)) &&& (1 : Int32))
theorem rz_m_mo (σ : ra_S) (x : Int32) : ra_C 230 [.int x] σ = ra_I (rz_mo x 16) σ := by
  have loop : ∀ d k, k + d = 16 → ra_D (ra_lay, none, 99999, ra_m230) 4 [some (.int x), some (.int (rz_mo x k)), some (.int (nI k))] [] σ = ra_I (rz_mo x 16) σ := by
    intro d
    induction d with
    | zero => intro k hk; have : k = 16 := by omega
              subst this; rw [e_230_4, if_neg (by decide)]
    | succ d ih =>
      intro k hk
      rw [e_230_4, show (16 : Int32) = nI 16 from rfl, rz_il (by omega) (by omega), nI_1]
      exact ih (k + 1) (by omega)
  rw [e_230]
  exact loop 16 0 (by omega)
theorem rz_bcmo : ∀ n : Fin 64, rz_mo (nI n.val) 16 = rz_bc (nI n.val) := by decide +kernel
