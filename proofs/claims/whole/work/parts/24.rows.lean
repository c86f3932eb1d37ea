-- ===== the entries as one function =====
/-- what the entries hang on: weights, habit less ahead, begins, sees, hears, delays, what is added -/
abbrev rz_En : Type := (Nat → Nat → Int) × (Nat → Int) × (Nat → Int) × (Nat → Nat → Bool) × (Nat → Nat → Bool) × (Nat → Nat → Int) × (Nat → Nat → Int)
abbrev rz_w (E : rz_En) : Nat → Nat → Int := E.1
abbrev rz_hb (E : rz_En) : Nat → Int := E.2.1
abbrev rz_bg (E : rz_En) : Nat → Int := E.2.2.1
abbrev rz_see (E : rz_En) : Nat → Nat → Bool := E.2.2.2.1
abbrev rz_hear (E : rz_En) : Nat → Nat → Bool := E.2.2.2.2.1
abbrev rz_dl (E : rz_En) : Nat → Nat → Int := E.2.2.2.2.2.1
abbrev rz_ex (E : rz_En) : Nat → Nat → Int := E.2.2.2.2.2.2
def rz_gap (E : rz_En) (b : Nat) (r1 r2 : Nat → Int) (p : Nat) : Int := if b = 1 then rz_bg E 1 else r1 p - r2 p
def rz_fold (E : rz_En) (b : Nat) (g : Int) (r1 : Nat → Int) (p : Nat) : Nat → Int × Int
  | 0 => (rz_w E p 0 * (rz_bg E b + rz_hb E p) + rz_w E p 1 * (r1 p + g), rz_w E p 0 + rz_w E p 1)
  | n + 1 => (((rz_fold E b g r1 p n).1 + (if rz_see E p n then rz_w E p 2 else 0) * (r1 n + g)) + (if rz_hear E p n then rz_w E p 3 else 0) * (r1 n + g + rz_dl E p n), (rz_fold E b g r1 p n).2 + (if rz_see E p n then rz_w E p 2 else 0) + (if rz_hear E p n then rz_w E p 3 else 0))
def rz_mid (E : rz_En) (np b : Nat) (r1 r2 : Nat → Int) (p : Nat) : Int := if (rz_fold E b (rz_gap E b r1 r2 p) r1 p np).2 = 0 then r1 p + rz_gap E b r1 r2 p else (rz_fold E b (rz_gap E b r1 r2 p) r1 p np).1 / (rz_fold E b (rz_gap E b r1 r2 p) r1 p np).2
def rz_row (E : rz_En) (np : Nat) : Nat → (Nat → Int) × (Nat → Int)
  | 0 => (fun p => rz_cl (rz_bg E 0 + rz_hb E p + rz_ex E 0 p), fun _ => 0)
  | b + 1 => (fun p => rz_cl (rz_mid E np (b + 1) (rz_row E np b).1 (rz_row E np b).2 p + rz_ex E (b + 1) p), (rz_row E np b).1)
def rz_e (E : rz_En) (np b p : Nat) : Int := (rz_row E np b).1 p
/-- bounds -/
def rz_Eok (E : rz_En) (np nb : Nat) : Prop := (∀ p, p < np → ∀ j, j < 4 → 0 ≤ rz_w E p j ∧ rz_w E p j ≤ 9) ∧ (∀ p, p < np → -1000 ≤ rz_hb E p ∧ rz_hb E p ≤ 1000) ∧ (∀ b, b ≤ nb → 0 ≤ rz_bg E b ∧ rz_bg E b ≤ 10000000) ∧ (∀ p q, p < np → q < np → -10000 ≤ rz_dl E p q ∧ rz_dl E p q ≤ 10000) ∧ ∀ b p, b < nb → p < np → -1000000 ≤ rz_ex E b p ∧ rz_ex E b p ≤ 1000000
theorem rz_e_in (E : rz_En) (np b p : Nat) : -1000000000 ≤ rz_e E np b p ∧ rz_e E np b p ≤ 1000000000 := by
  unfold rz_e
  cases b with
  | zero => exact rz_cl_in _
  | succ b => exact rz_cl_in _
theorem rz_row2 (E : rz_En) (np b : Nat) : (rz_row E np (b + 1)).2 = (rz_row E np b).1 := rfl
theorem rz_mul9 {w x M : Int} (h1 : 0 ≤ w) (h2 : w ≤ 9) (h3 : -M ≤ x) (h4 : x ≤ M) : -(9 * M) ≤ w * x ∧ w * x ≤ 9 * M := by
  rcases (show w = 0 ∨ w = 1 ∨ w = 2 ∨ w = 3 ∨ w = 4 ∨ w = 5 ∨ w = 6 ∨ w = 7 ∨ w = 8 ∨ w = 9 by omega) with rfl | rfl | rfl | rfl | rfl | rfl | rfl | rfl | rfl | rfl <;> omega
theorem rz_fold_in {E : rz_En} {np nb : Nat} (ok : rz_Eok E np nb) {b p : Nat} (hb : b ≤ nb) (hp : p < np) {g : Int} {r1 : Nat → Int} (hg : -2000000000 ≤ g ∧ g ≤ 2000000000) (hr : ∀ q, -1000000000 ≤ r1 q ∧ r1 q ≤ 1000000000) : ∀ n, n ≤ np → -(36000000000 * (2 * n + 2 : Int)) ≤ (rz_fold E b g r1 p n).1 ∧ (rz_fold E b g r1 p n).1 ≤ 36000000000 * (2 * n + 2 : Int) ∧ 0 ≤ (rz_fold E b g r1 p n).2 ∧ (rz_fold E b g r1 p n).2 ≤ 18 * (n + 1 : Int) := by
  obtain ⟨k1, k2, k3, k4, k5⟩ := ok
  have w0 := k1 p hp 0 (by omega)
  have w1 := k1 p hp 1 (by omega)
  have w2 := k1 p hp 2 (by omega)
  have w3 := k1 p hp 3 (by omega)
  have h0 := k2 p hp
  have b0 := k3 b hb
  intro n
  induction n with
  | zero =>
    intro _
    have a1 := rz_mul9 (M := 4000000000) w0.1 w0.2 (x := rz_bg E b + rz_hb E p) (by omega) (by omega)
    have a2 := rz_mul9 (M := 4000000000) w1.1 w1.2 (x := r1 p + g) (by have := hr p; omega) (by have := hr p; omega)
    unfold rz_fold
    dsimp only
    omega
  | succ n ih =>
    intro hn
    obtain ⟨i1, i2, i3, i4⟩ := ih (by omega)
    have d0 := k4 p n hp (by omega)
    have q0 := hr n
    have s1 : 0 ≤ (if rz_see E p n then rz_w E p 2 else 0) ∧ (if rz_see E p n then rz_w E p 2 else 0) ≤ 9 := by
      by_cases z : rz_see E p n = true
      · rw [if_pos z]; exact w2
      · rw [if_neg z]; omega
    have s2 : 0 ≤ (if rz_hear E p n then rz_w E p 3 else 0) ∧ (if rz_hear E p n then rz_w E p 3 else 0) ≤ 9 := by
      by_cases z : rz_hear E p n = true
      · rw [if_pos z]; exact w3
      · rw [if_neg z]; omega
    have a1 := rz_mul9 (M := 4000000000) s1.1 s1.2 (x := r1 n + g) (by omega) (by omega)
    have a2 := rz_mul9 (M := 4000000000) s2.1 s2.2 (x := r1 n + g + rz_dl E p n) (by omega) (by omega)
    rw [rz_fold]
    dsimp only
    omega
