-- ===== one turn of the law's loop; written by wip/whole/gen40.py =====
/-- what is to be shown of the calls, but text and look -/
def rz_op (j : Nat) : Prop := match j with
  | 0 => ∀ (σ : ra_S) (a1 a2 a3 a4 a5 : Int32), rz_R σ → rz_OI 77 140 [.int a1, .int a2, .int a3, .int a4, .int a5] σ
  | 2 => ∀ (σ : ra_S) (a1 : Int32), rz_R σ → rz_OI 79 171 [.int a1] σ
  | 3 => ∀ (σ : ra_S) (a1 a2 : Int32), rz_R σ → rz_OI 80 172 [.int a1, .int a2] σ
  | 5 => ∀ (σ : ra_S) (a1 a2 : Int32), rz_R σ → rz_OI 82 177 [.int a1, .int a2] σ
  | 6 => ∀ (σ : ra_S) (a1 : Int32), rz_R σ → rz_OI 84 183 [.int a1] σ
  | 7 => ∀ (σ : ra_S) (a1 a2 : Int32), rz_R σ → rz_OI 85 181 [.int a1, .int a2] σ
  | 8 => ∀ (σ : ra_S) (a1 a2 : Int32), rz_R σ → rz_OI 86 191 [.int a1, .int a2] σ
  | 9 => ∀ (σ : ra_S) (a1 : Int32), rz_R σ → rz_OI 87 194 [.int a1] σ
  | 10 => ∀ (σ : ra_S) (a1 : Int32), rz_R σ → rz_OI 88 195 [.int a1] σ
  | 11 => ∀ (σ : ra_S) (a1 : Int32), rz_R σ → rz_OI 89 197 [.int a1] σ
  | 12 => ∀ (σ : ra_S) (a1 a2 : Int32), rz_R σ → rz_OI 90 198 [.int a1, .int a2] σ
  | 13 => ∀ (σ : ra_S) (a1 a2 : Int32), rz_R σ → rz_OI 93 200 [.int a1, .int a2] σ
  | 14 => ∀ (σ : ra_S) (a1 a2 a3 : Int32), rz_R σ → rz_OI 94 201 [.int a1, .int a2, .int a3] σ
  | 15 => ∀ (σ : ra_S), rz_R σ → rz_OI 95 202 [] σ
  | 16 => ∀ (σ : ra_S) (a1 a2 a3 a4 : Int32), rz_R σ → rz_OI 96 205 [.int a1, .int a2, .int a3, .int a4] σ
  | 17 => ∀ (σ : ra_S) (a1 a2 a3 a4 : Int32), rz_R σ → rz_OJ 97 208 [.int a1, .int a2, .int a3, .int a4] σ
  | 18 => ∀ (σ : ra_S) (a1 a2 a3 : Int32), rz_R σ → rz_OJ 98 209 [.int a1, .int a2, .int a3] σ
  | 19 => ∀ (σ : ra_S) (a1 a2 a3 : Int32), rz_R σ → rz_OI 99 210 [.int a1, .int a2, .int a3] σ
  | 20 => ∀ (σ : ra_S) (a1 a2 a3 a4 a5 : Int32), rz_R σ → rz_OI 104 214 [.int a1, .int a2, .int a3, .int a4, .int a5] σ
  | 21 => ∀ (σ : ra_S) (a1 a2 a3 a4 : Int32), rz_R σ → rz_OI 105 215 [.int a1, .int a2, .int a3, .int a4] σ
  | 22 => ∀ (σ : ra_S) (a1 a2 a3 : Int32), rz_R σ → rz_OI 106 216 [.int a1, .int a2, .int a3] σ
  | 23 => ∀ (σ : ra_S) (a1 a2 a3 a4 a5 : Int32), rz_R σ → rz_OI 107 217 [.int a1, .int a2, .int a3, .int a4, .int a5] σ
  | 24 => ∀ (σ : ra_S) (a1 : Int32), rz_R σ → rz_OI 111 219 [.int a1] σ
  | 25 => ∀ (σ : ra_S) (a1 a2 a3 : Int32), rz_R σ → rz_OI 112 220 [.int a1, .int a2, .int a3] σ
  | 26 => ∀ (σ : ra_S) (a1 : Int32), rz_R σ → rz_OI 113 221 [.int a1] σ
  | 27 => ∀ (σ : ra_S) (a1 : Int32), rz_R σ → rz_OI 114 222 [.int a1] σ
  | 28 => ∀ (σ : ra_S) (a1 a2 : Int32), rz_R σ → rz_OI 115 227 [.int a1, .int a2] σ
  | 29 => ∀ (σ : ra_S) (a1 a2 a3 : Int32), rz_R σ → rz_OI 116 231 [.int a1, .int a2, .int a3] σ
  | 30 => ∀ (σ : ra_S) (a1 a2 a3 a4 a5 : Int32), rz_R σ → rz_OJ 100 238 [.int a1, .int a2, .int a3, .int a4, .int a5] σ
  | 31 => ∀ (σ : ra_S) (a1 a2 : Int32), rz_R σ → rz_OI 123 240 [.int a1, .int a2] σ
  | 32 => ∀ (σ : ra_S) (a1 a2 a3 : Int32), rz_R σ → rz_OI 125 241 [.int a1, .int a2, .int a3] σ
  | 33 => ∀ (σ : ra_S) (a1 : Int32), rz_R σ → rz_OI 126 243 [.int a1] σ
  | 34 => ∀ (σ : ra_S) (a1 a2 a3 a4 : Int32), rz_R σ → rz_OI 129 244 [.int a1, .int a2, .int a3, .int a4] σ
  | 35 => ∀ (σ : ra_S) (a1 : Int32), rz_R σ → rz_OI 83 245 [.int a1] σ
  | _ => True
abbrev rz_lo (i : Nat) (o5 o6 : Option Value) : ra_L := [some (.ref 999), some (.ref 0), some (.ref 86), some (.ref 115), some (.int (nI i)), o5, o6]
theorem rz_ix {i k L : Nat} (h : i + 6 ≤ L) (hL : L ≤ 3072) (hk : k < 6) : 0 ≤ (nI i + nI k).toInt ∧ (nI i + nI k).toInt < (L : Int) := by
  rw [nI_add, nI_toInt (by omega)]; omega
theorem rz_cmp0 (x : Int64) : lg_cmp x x = 0 := by
  unfold lg_cmp
  simp
theorem rz_case0 (L : Nat) (xs : Nat → Int32) (hL : L ≤ 3072) {i : Nat} (hi : i + 6 ≤ L) (σ : ra_S) (hR : rz_R σ) (H : rz_op 0) : ∃ σ2, rz_R σ2 ∧ ∀ o5 o6, ra_D (ra_lay, some (L, xs), 1734, ra_m253) 200 (rz_lo i o5 o6) [] σ = some (.inr (rz_lo i o5 o6, []), σ2) := by
  have g1 : 0 ≤ (nI i + (1 : Int32)).toInt ∧ (nI i + (1 : Int32)).toInt < (L : Int) := rz_ix (k := 1) hi hL (by decide)
  have g2 : 0 ≤ (nI i + (2 : Int32)).toInt ∧ (nI i + (2 : Int32)).toInt < (L : Int) := rz_ix (k := 2) hi hL (by decide)
  have g3 : 0 ≤ (nI i + (3 : Int32)).toInt ∧ (nI i + (3 : Int32)).toInt < (L : Int) := rz_ix (k := 3) hi hL (by decide)
  have g4 : 0 ≤ (nI i + (4 : Int32)).toInt ∧ (nI i + (4 : Int32)).toInt < (L : Int) := rz_ix (k := 4) hi hL (by decide)
  have g5 : 0 ≤ (nI i + (5 : Int32)).toInt ∧ (nI i + (5 : Int32)).toInt < (L : Int) := rz_ix (k := 5) hi hL (by decide)
  obtain ⟨v, σ1, σ2, h1, h2, h3⟩ := H σ (xs (nI i + (1 : Int32)).toNatClampNeg) (xs (nI i + (2 : Int32)).toNatClampNeg) (xs (nI i + (3 : Int32)).toNatClampNeg) (xs (nI i + (4 : Int32)).toNatClampNeg) (xs (nI i + (5 : Int32)).toNatClampNeg) hR
  refine ⟨σ2, h3, fun o5 o6 => ?_⟩
  rw [e_253L_200, if_pos g1, if_pos g2, if_pos g3, if_pos g4, if_pos g5, h1, ra_kI, if_pos g1, if_pos g2, if_pos g3, if_pos g4, if_pos g5, h2, ra_kI, if_pos rfl]
theorem rz_case2 (L : Nat) (xs : Nat → Int32) (hL : L ≤ 3072) {i : Nat} (hi : i + 6 ≤ L) (σ : ra_S) (hR : rz_R σ) (H : rz_op 2) : ∃ σ2, rz_R σ2 ∧ ∀ o5 o6, ra_D (ra_lay, some (L, xs), 1734, ra_m253) 298 (rz_lo i o5 o6) [] σ = some (.inr (rz_lo i o5 o6, []), σ2) := by
  have g1 : 0 ≤ (nI i + (1 : Int32)).toInt ∧ (nI i + (1 : Int32)).toInt < (L : Int) := rz_ix (k := 1) hi hL (by decide)
  obtain ⟨v, σ1, σ2, h1, h2, h3⟩ := H σ (xs (nI i + (1 : Int32)).toNatClampNeg) hR
  refine ⟨σ2, h3, fun o5 o6 => ?_⟩
  rw [e_253L_298, if_pos g1, h1, ra_kI, if_pos g1, h2, ra_kI, if_pos rfl]
theorem rz_case3 (L : Nat) (xs : Nat → Int32) (hL : L ≤ 3072) {i : Nat} (hi : i + 6 ≤ L) (σ : ra_S) (hR : rz_R σ) (H : rz_op 3) : ∃ σ2, rz_R σ2 ∧ ∀ o5 o6, ra_D (ra_lay, some (L, xs), 1734, ra_m253) 323 (rz_lo i o5 o6) [] σ = some (.inr (rz_lo i o5 o6, []), σ2) := by
  have g1 : 0 ≤ (nI i + (1 : Int32)).toInt ∧ (nI i + (1 : Int32)).toInt < (L : Int) := rz_ix (k := 1) hi hL (by decide)
  have g2 : 0 ≤ (nI i + (2 : Int32)).toInt ∧ (nI i + (2 : Int32)).toInt < (L : Int) := rz_ix (k := 2) hi hL (by decide)
  obtain ⟨v, σ1, σ2, h1, h2, h3⟩ := H σ (xs (nI i + (1 : Int32)).toNatClampNeg) (xs (nI i + (2 : Int32)).toNatClampNeg) hR
  refine ⟨σ2, h3, fun o5 o6 => ?_⟩
  rw [e_253L_323, if_pos g1, if_pos g2, h1, ra_kI, if_pos g1, if_pos g2, h2, ra_kI, if_pos rfl]
theorem rz_case5 (L : Nat) (xs : Nat → Int32) (hL : L ≤ 3072) {i : Nat} (hi : i + 6 ≤ L) (σ : ra_S) (hR : rz_R σ) (H : rz_op 5) : ∃ σ2, rz_R σ2 ∧ ∀ o5 o6, ra_D (ra_lay, some (L, xs), 1734, ra_m253) 428 (rz_lo i o5 o6) [] σ = some (.inr (rz_lo i o5 o6, []), σ2) := by
  have g1 : 0 ≤ (nI i + (1 : Int32)).toInt ∧ (nI i + (1 : Int32)).toInt < (L : Int) := rz_ix (k := 1) hi hL (by decide)
  have g2 : 0 ≤ (nI i + (2 : Int32)).toInt ∧ (nI i + (2 : Int32)).toInt < (L : Int) := rz_ix (k := 2) hi hL (by decide)
  obtain ⟨v, σ1, σ2, h1, h2, h3⟩ := H σ (xs (nI i + (1 : Int32)).toNatClampNeg) (xs (nI i + (2 : Int32)).toNatClampNeg) hR
  refine ⟨σ2, h3, fun o5 o6 => ?_⟩
  rw [e_253L_428, if_pos g1, if_pos g2, h1, ra_kI, if_pos g1, if_pos g2, h2, ra_kI, if_pos rfl]
theorem rz_case6 (L : Nat) (xs : Nat → Int32) (hL : L ≤ 3072) {i : Nat} (hi : i + 6 ≤ L) (σ : ra_S) (hR : rz_R σ) (H : rz_op 6) : ∃ σ2, rz_R σ2 ∧ ∀ o5 o6, ra_D (ra_lay, some (L, xs), 1734, ra_m253) 465 (rz_lo i o5 o6) [] σ = some (.inr (rz_lo i o5 o6, []), σ2) := by
  have g1 : 0 ≤ (nI i + (1 : Int32)).toInt ∧ (nI i + (1 : Int32)).toInt < (L : Int) := rz_ix (k := 1) hi hL (by decide)
  obtain ⟨v, σ1, σ2, h1, h2, h3⟩ := H σ (xs (nI i + (1 : Int32)).toNatClampNeg) hR
  refine ⟨σ2, h3, fun o5 o6 => ?_⟩
  rw [e_253L_465, if_pos g1, h1, ra_kI, if_pos g1, h2, ra_kI, if_pos rfl]
theorem rz_case7 (L : Nat) (xs : Nat → Int32) (hL : L ≤ 3072) {i : Nat} (hi : i + 6 ≤ L) (σ : ra_S) (hR : rz_R σ) (H : rz_op 7) : ∃ σ2, rz_R σ2 ∧ ∀ o5 o6, ra_D (ra_lay, some (L, xs), 1734, ra_m253) 490 (rz_lo i o5 o6) [] σ = some (.inr (rz_lo i o5 o6, []), σ2) := by
  have g1 : 0 ≤ (nI i + (1 : Int32)).toInt ∧ (nI i + (1 : Int32)).toInt < (L : Int) := rz_ix (k := 1) hi hL (by decide)
  have g2 : 0 ≤ (nI i + (2 : Int32)).toInt ∧ (nI i + (2 : Int32)).toInt < (L : Int) := rz_ix (k := 2) hi hL (by decide)
  obtain ⟨v, σ1, σ2, h1, h2, h3⟩ := H σ (xs (nI i + (1 : Int32)).toNatClampNeg) (xs (nI i + (2 : Int32)).toNatClampNeg) hR
  refine ⟨σ2, h3, fun o5 o6 => ?_⟩
  rw [e_253L_490, if_pos g1, if_pos g2, h1, ra_kI, if_pos g1, if_pos g2, h2, ra_kI, if_pos rfl]
theorem rz_case8 (L : Nat) (xs : Nat → Int32) (hL : L ≤ 3072) {i : Nat} (hi : i + 6 ≤ L) (σ : ra_S) (hR : rz_R σ) (H : rz_op 8) : ∃ σ2, rz_R σ2 ∧ ∀ o5 o6, ra_D (ra_lay, some (L, xs), 1734, ra_m253) 527 (rz_lo i o5 o6) [] σ = some (.inr (rz_lo i o5 o6, []), σ2) := by
  have g1 : 0 ≤ (nI i + (1 : Int32)).toInt ∧ (nI i + (1 : Int32)).toInt < (L : Int) := rz_ix (k := 1) hi hL (by decide)
  have g2 : 0 ≤ (nI i + (2 : Int32)).toInt ∧ (nI i + (2 : Int32)).toInt < (L : Int) := rz_ix (k := 2) hi hL (by decide)
  obtain ⟨v, σ1, σ2, h1, h2, h3⟩ := H σ (xs (nI i + (1 : Int32)).toNatClampNeg) (xs (nI i + (2 : Int32)).toNatClampNeg) hR
  refine ⟨σ2, h3, fun o5 o6 => ?_⟩
  rw [e_253L_527, if_pos g1, if_pos g2, h1, ra_kI, if_pos g1, if_pos g2, h2, ra_kI, if_pos rfl]
theorem rz_case9 (L : Nat) (xs : Nat → Int32) (hL : L ≤ 3072) {i : Nat} (hi : i + 6 ≤ L) (σ : ra_S) (hR : rz_R σ) (H : rz_op 9) : ∃ σ2, rz_R σ2 ∧ ∀ o5 o6, ra_D (ra_lay, some (L, xs), 1734, ra_m253) 564 (rz_lo i o5 o6) [] σ = some (.inr (rz_lo i o5 o6, []), σ2) := by
  have g1 : 0 ≤ (nI i + (1 : Int32)).toInt ∧ (nI i + (1 : Int32)).toInt < (L : Int) := rz_ix (k := 1) hi hL (by decide)
  obtain ⟨v, σ1, σ2, h1, h2, h3⟩ := H σ (xs (nI i + (1 : Int32)).toNatClampNeg) hR
  refine ⟨σ2, h3, fun o5 o6 => ?_⟩
  rw [e_253L_564, if_pos g1, h1, ra_kI, if_pos g1, h2, ra_kI, if_pos rfl]
theorem rz_case10 (L : Nat) (xs : Nat → Int32) (hL : L ≤ 3072) {i : Nat} (hi : i + 6 ≤ L) (σ : ra_S) (hR : rz_R σ) (H : rz_op 10) : ∃ σ2, rz_R σ2 ∧ ∀ o5 o6, ra_D (ra_lay, some (L, xs), 1734, ra_m253) 589 (rz_lo i o5 o6) [] σ = some (.inr (rz_lo i o5 o6, []), σ2) := by
  have g1 : 0 ≤ (nI i + (1 : Int32)).toInt ∧ (nI i + (1 : Int32)).toInt < (L : Int) := rz_ix (k := 1) hi hL (by decide)
  obtain ⟨v, σ1, σ2, h1, h2, h3⟩ := H σ (xs (nI i + (1 : Int32)).toNatClampNeg) hR
  refine ⟨σ2, h3, fun o5 o6 => ?_⟩
  rw [e_253L_589, if_pos g1, h1, ra_kI, if_pos g1, h2, ra_kI, if_pos rfl]
theorem rz_case11 (L : Nat) (xs : Nat → Int32) (hL : L ≤ 3072) {i : Nat} (hi : i + 6 ≤ L) (σ : ra_S) (hR : rz_R σ) (H : rz_op 11) : ∃ σ2, rz_R σ2 ∧ ∀ o5 o6, ra_D (ra_lay, some (L, xs), 1734, ra_m253) 614 (rz_lo i o5 o6) [] σ = some (.inr (rz_lo i o5 o6, []), σ2) := by
  have g1 : 0 ≤ (nI i + (1 : Int32)).toInt ∧ (nI i + (1 : Int32)).toInt < (L : Int) := rz_ix (k := 1) hi hL (by decide)
  obtain ⟨v, σ1, σ2, h1, h2, h3⟩ := H σ (xs (nI i + (1 : Int32)).toNatClampNeg) hR
  refine ⟨σ2, h3, fun o5 o6 => ?_⟩
  rw [e_253L_614, if_pos g1, h1, ra_kI, if_pos g1, h2, ra_kI, if_pos rfl]
theorem rz_case12 (L : Nat) (xs : Nat → Int32) (hL : L ≤ 3072) {i : Nat} (hi : i + 6 ≤ L) (σ : ra_S) (hR : rz_R σ) (H : rz_op 12) : ∃ σ2, rz_R σ2 ∧ ∀ o5 o6, ra_D (ra_lay, some (L, xs), 1734, ra_m253) 639 (rz_lo i o5 o6) [] σ = some (.inr (rz_lo i o5 o6, []), σ2) := by
  have g1 : 0 ≤ (nI i + (1 : Int32)).toInt ∧ (nI i + (1 : Int32)).toInt < (L : Int) := rz_ix (k := 1) hi hL (by decide)
  have g2 : 0 ≤ (nI i + (2 : Int32)).toInt ∧ (nI i + (2 : Int32)).toInt < (L : Int) := rz_ix (k := 2) hi hL (by decide)
  obtain ⟨v, σ1, σ2, h1, h2, h3⟩ := H σ (xs (nI i + (1 : Int32)).toNatClampNeg) (xs (nI i + (2 : Int32)).toNatClampNeg) hR
  refine ⟨σ2, h3, fun o5 o6 => ?_⟩
  rw [e_253L_639, if_pos g1, if_pos g2, h1, ra_kI, if_pos g1, if_pos g2, h2, ra_kI, if_pos rfl]
theorem rz_case13 (L : Nat) (xs : Nat → Int32) (hL : L ≤ 3072) {i : Nat} (hi : i + 6 ≤ L) (σ : ra_S) (hR : rz_R σ) (H : rz_op 13) : ∃ σ2, rz_R σ2 ∧ ∀ o5 o6, ra_D (ra_lay, some (L, xs), 1734, ra_m253) 676 (rz_lo i o5 o6) [] σ = some (.inr (rz_lo i o5 o6, []), σ2) := by
  have g1 : 0 ≤ (nI i + (1 : Int32)).toInt ∧ (nI i + (1 : Int32)).toInt < (L : Int) := rz_ix (k := 1) hi hL (by decide)
  have g2 : 0 ≤ (nI i + (2 : Int32)).toInt ∧ (nI i + (2 : Int32)).toInt < (L : Int) := rz_ix (k := 2) hi hL (by decide)
  obtain ⟨v, σ1, σ2, h1, h2, h3⟩ := H σ (xs (nI i + (1 : Int32)).toNatClampNeg) (xs (nI i + (2 : Int32)).toNatClampNeg) hR
  refine ⟨σ2, h3, fun o5 o6 => ?_⟩
  rw [e_253L_676, if_pos g1, if_pos g2, h1, ra_kI, if_pos g1, if_pos g2, h2, ra_kI, if_pos rfl]
theorem rz_case14 (L : Nat) (xs : Nat → Int32) (hL : L ≤ 3072) {i : Nat} (hi : i + 6 ≤ L) (σ : ra_S) (hR : rz_R σ) (H : rz_op 14) : ∃ σ2, rz_R σ2 ∧ ∀ o5 o6, ra_D (ra_lay, some (L, xs), 1734, ra_m253) 713 (rz_lo i o5 o6) [] σ = some (.inr (rz_lo i o5 o6, []), σ2) := by
  have g1 : 0 ≤ (nI i + (1 : Int32)).toInt ∧ (nI i + (1 : Int32)).toInt < (L : Int) := rz_ix (k := 1) hi hL (by decide)
  have g2 : 0 ≤ (nI i + (2 : Int32)).toInt ∧ (nI i + (2 : Int32)).toInt < (L : Int) := rz_ix (k := 2) hi hL (by decide)
  have g3 : 0 ≤ (nI i + (3 : Int32)).toInt ∧ (nI i + (3 : Int32)).toInt < (L : Int) := rz_ix (k := 3) hi hL (by decide)
  obtain ⟨v, σ1, σ2, h1, h2, h3⟩ := H σ (xs (nI i + (1 : Int32)).toNatClampNeg) (xs (nI i + (2 : Int32)).toNatClampNeg) (xs (nI i + (3 : Int32)).toNatClampNeg) hR
  refine ⟨σ2, h3, fun o5 o6 => ?_⟩
  rw [e_253L_713, if_pos g1, if_pos g2, if_pos g3, h1, ra_kI, if_pos g1, if_pos g2, if_pos g3, h2, ra_kI, if_pos rfl]
theorem rz_case15 (L : Nat) (xs : Nat → Int32) (hL : L ≤ 3072) {i : Nat} (hi : i + 6 ≤ L) (σ : ra_S) (hR : rz_R σ) (H : rz_op 15) : ∃ σ2, rz_R σ2 ∧ ∀ o5 o6, ra_D (ra_lay, some (L, xs), 1734, ra_m253) 762 (rz_lo i o5 o6) [] σ = some (.inr (rz_lo i o5 o6, []), σ2) := by
  obtain ⟨v, σ1, σ2, h1, h2, h3⟩ := H σ hR
  refine ⟨σ2, h3, fun o5 o6 => ?_⟩
  rw [e_253L_762, h1, ra_kI, h2, ra_kI, if_pos rfl]
theorem rz_case16 (L : Nat) (xs : Nat → Int32) (hL : L ≤ 3072) {i : Nat} (hi : i + 6 ≤ L) (σ : ra_S) (hR : rz_R σ) (H : rz_op 16) : ∃ σ2, rz_R σ2 ∧ ∀ o5 o6, ra_D (ra_lay, some (L, xs), 1734, ra_m253) 775 (rz_lo i o5 o6) [] σ = some (.inr (rz_lo i o5 o6, []), σ2) := by
  have g1 : 0 ≤ (nI i + (1 : Int32)).toInt ∧ (nI i + (1 : Int32)).toInt < (L : Int) := rz_ix (k := 1) hi hL (by decide)
  have g2 : 0 ≤ (nI i + (2 : Int32)).toInt ∧ (nI i + (2 : Int32)).toInt < (L : Int) := rz_ix (k := 2) hi hL (by decide)
  have g3 : 0 ≤ (nI i + (3 : Int32)).toInt ∧ (nI i + (3 : Int32)).toInt < (L : Int) := rz_ix (k := 3) hi hL (by decide)
  have g4 : 0 ≤ (nI i + (4 : Int32)).toInt ∧ (nI i + (4 : Int32)).toInt < (L : Int) := rz_ix (k := 4) hi hL (by decide)
  obtain ⟨v, σ1, σ2, h1, h2, h3⟩ := H σ (xs (nI i + (1 : Int32)).toNatClampNeg) (xs (nI i + (2 : Int32)).toNatClampNeg) (xs (nI i + (3 : Int32)).toNatClampNeg) (xs (nI i + (4 : Int32)).toNatClampNeg) hR
  refine ⟨σ2, h3, fun o5 o6 => ?_⟩
  rw [e_253L_775, if_pos g1, if_pos g2, if_pos g3, if_pos g4, h1, ra_kI, if_pos g1, if_pos g2, if_pos g3, if_pos g4, h2, ra_kI, if_pos rfl]
theorem rz_case17 (L : Nat) (xs : Nat → Int32) (hL : L ≤ 3072) {i : Nat} (hi : i + 6 ≤ L) (σ : ra_S) (hR : rz_R σ) (H : rz_op 17) : ∃ σ2, rz_R σ2 ∧ ∀ o5 o6, ra_D (ra_lay, some (L, xs), 1734, ra_m253) 836 (rz_lo i o5 o6) [] σ = some (.inr (rz_lo i o5 o6, []), σ2) := by
  have g1 : 0 ≤ (nI i + (1 : Int32)).toInt ∧ (nI i + (1 : Int32)).toInt < (L : Int) := rz_ix (k := 1) hi hL (by decide)
  have g2 : 0 ≤ (nI i + (2 : Int32)).toInt ∧ (nI i + (2 : Int32)).toInt < (L : Int) := rz_ix (k := 2) hi hL (by decide)
  have g3 : 0 ≤ (nI i + (3 : Int32)).toInt ∧ (nI i + (3 : Int32)).toInt < (L : Int) := rz_ix (k := 3) hi hL (by decide)
  have g4 : 0 ≤ (nI i + (4 : Int32)).toInt ∧ (nI i + (4 : Int32)).toInt < (L : Int) := rz_ix (k := 4) hi hL (by decide)
  obtain ⟨v, σ1, σ2, h1, h2, h3⟩ := H σ (xs (nI i + (1 : Int32)).toNatClampNeg) (xs (nI i + (2 : Int32)).toNatClampNeg) (xs (nI i + (3 : Int32)).toNatClampNeg) (xs (nI i + (4 : Int32)).toNatClampNeg) hR
  refine ⟨σ2, h3, fun o5 o6 => ?_⟩
  rw [e_253L_836, if_pos g1, if_pos g2, if_pos g3, if_pos g4, h1, ra_kJ, if_pos g1, if_pos g2, if_pos g3, if_pos g4, h2, ra_kJ, rz_cmp0, if_pos rfl]
theorem rz_case18 (L : Nat) (xs : Nat → Int32) (hL : L ≤ 3072) {i : Nat} (hi : i + 6 ≤ L) (σ : ra_S) (hR : rz_R σ) (H : rz_op 18) : ∃ σ2, rz_R σ2 ∧ ∀ o5 o6, ra_D (ra_lay, some (L, xs), 1734, ra_m253) 898 (rz_lo i o5 o6) [] σ = some (.inr (rz_lo i o5 o6, []), σ2) := by
  have g1 : 0 ≤ (nI i + (1 : Int32)).toInt ∧ (nI i + (1 : Int32)).toInt < (L : Int) := rz_ix (k := 1) hi hL (by decide)
  have g2 : 0 ≤ (nI i + (2 : Int32)).toInt ∧ (nI i + (2 : Int32)).toInt < (L : Int) := rz_ix (k := 2) hi hL (by decide)
  have g3 : 0 ≤ (nI i + (3 : Int32)).toInt ∧ (nI i + (3 : Int32)).toInt < (L : Int) := rz_ix (k := 3) hi hL (by decide)
  obtain ⟨v, σ1, σ2, h1, h2, h3⟩ := H σ (xs (nI i + (1 : Int32)).toNatClampNeg) (xs (nI i + (2 : Int32)).toNatClampNeg) (xs (nI i + (3 : Int32)).toNatClampNeg) hR
  refine ⟨σ2, h3, fun o5 o6 => ?_⟩
  rw [e_253L_898, if_pos g1, if_pos g2, if_pos g3, h1, ra_kJ, if_pos g1, if_pos g2, if_pos g3, h2, ra_kJ, rz_cmp0, if_pos rfl]
theorem rz_case19 (L : Nat) (xs : Nat → Int32) (hL : L ≤ 3072) {i : Nat} (hi : i + 6 ≤ L) (σ : ra_S) (hR : rz_R σ) (H : rz_op 19) : ∃ σ2, rz_R σ2 ∧ ∀ o5 o6, ra_D (ra_lay, some (L, xs), 1734, ra_m253) 948 (rz_lo i o5 o6) [] σ = some (.inr (rz_lo i o5 o6, []), σ2) := by
  have g1 : 0 ≤ (nI i + (1 : Int32)).toInt ∧ (nI i + (1 : Int32)).toInt < (L : Int) := rz_ix (k := 1) hi hL (by decide)
  have g2 : 0 ≤ (nI i + (2 : Int32)).toInt ∧ (nI i + (2 : Int32)).toInt < (L : Int) := rz_ix (k := 2) hi hL (by decide)
  have g3 : 0 ≤ (nI i + (3 : Int32)).toInt ∧ (nI i + (3 : Int32)).toInt < (L : Int) := rz_ix (k := 3) hi hL (by decide)
  obtain ⟨v, σ1, σ2, h1, h2, h3⟩ := H σ (xs (nI i + (1 : Int32)).toNatClampNeg) (xs (nI i + (2 : Int32)).toNatClampNeg) (xs (nI i + (3 : Int32)).toNatClampNeg) hR
  refine ⟨σ2, h3, fun o5 o6 => ?_⟩
  rw [e_253L_948, if_pos g1, if_pos g2, if_pos g3, h1, ra_kI, if_pos g1, if_pos g2, if_pos g3, h2, ra_kI, if_pos rfl]
theorem rz_case20 (L : Nat) (xs : Nat → Int32) (hL : L ≤ 3072) {i : Nat} (hi : i + 6 ≤ L) (σ : ra_S) (hR : rz_R σ) (H : rz_op 20) : ∃ σ2, rz_R σ2 ∧ ∀ o5 o6, ra_D (ra_lay, some (L, xs), 1734, ra_m253) 997 (rz_lo i o5 o6) [] σ = some (.inr (rz_lo i o5 o6, []), σ2) := by
  have g1 : 0 ≤ (nI i + (1 : Int32)).toInt ∧ (nI i + (1 : Int32)).toInt < (L : Int) := rz_ix (k := 1) hi hL (by decide)
  have g2 : 0 ≤ (nI i + (2 : Int32)).toInt ∧ (nI i + (2 : Int32)).toInt < (L : Int) := rz_ix (k := 2) hi hL (by decide)
  have g3 : 0 ≤ (nI i + (3 : Int32)).toInt ∧ (nI i + (3 : Int32)).toInt < (L : Int) := rz_ix (k := 3) hi hL (by decide)
  have g4 : 0 ≤ (nI i + (4 : Int32)).toInt ∧ (nI i + (4 : Int32)).toInt < (L : Int) := rz_ix (k := 4) hi hL (by decide)
  have g5 : 0 ≤ (nI i + (5 : Int32)).toInt ∧ (nI i + (5 : Int32)).toInt < (L : Int) := rz_ix (k := 5) hi hL (by decide)
  obtain ⟨v, σ1, σ2, h1, h2, h3⟩ := H σ (xs (nI i + (1 : Int32)).toNatClampNeg) (xs (nI i + (2 : Int32)).toNatClampNeg) (xs (nI i + (3 : Int32)).toNatClampNeg) (xs (nI i + (4 : Int32)).toNatClampNeg) (xs (nI i + (5 : Int32)).toNatClampNeg) hR
  refine ⟨σ2, h3, fun o5 o6 => ?_⟩
  rw [e_253L_997, if_pos g1, if_pos g2, if_pos g3, if_pos g4, if_pos g5, h1, ra_kI, if_pos g1, if_pos g2, if_pos g3, if_pos g4, if_pos g5, h2, ra_kI, if_pos rfl]
theorem rz_case21 (L : Nat) (xs : Nat → Int32) (hL : L ≤ 3072) {i : Nat} (hi : i + 6 ≤ L) (σ : ra_S) (hR : rz_R σ) (H : rz_op 21) : ∃ σ2, rz_R σ2 ∧ ∀ o5 o6, ra_D (ra_lay, some (L, xs), 1734, ra_m253) 1070 (rz_lo i o5 o6) [] σ = some (.inr (rz_lo i o5 o6, []), σ2) := by
  have g1 : 0 ≤ (nI i + (1 : Int32)).toInt ∧ (nI i + (1 : Int32)).toInt < (L : Int) := rz_ix (k := 1) hi hL (by decide)
  have g2 : 0 ≤ (nI i + (2 : Int32)).toInt ∧ (nI i + (2 : Int32)).toInt < (L : Int) := rz_ix (k := 2) hi hL (by decide)
  have g3 : 0 ≤ (nI i + (3 : Int32)).toInt ∧ (nI i + (3 : Int32)).toInt < (L : Int) := rz_ix (k := 3) hi hL (by decide)
  have g4 : 0 ≤ (nI i + (4 : Int32)).toInt ∧ (nI i + (4 : Int32)).toInt < (L : Int) := rz_ix (k := 4) hi hL (by decide)
  obtain ⟨v, σ1, σ2, h1, h2, h3⟩ := H σ (xs (nI i + (1 : Int32)).toNatClampNeg) (xs (nI i + (2 : Int32)).toNatClampNeg) (xs (nI i + (3 : Int32)).toNatClampNeg) (xs (nI i + (4 : Int32)).toNatClampNeg) hR
  refine ⟨σ2, h3, fun o5 o6 => ?_⟩
  rw [e_253L_1070, if_pos g1, if_pos g2, if_pos g3, if_pos g4, h1, ra_kI, if_pos g1, if_pos g2, if_pos g3, if_pos g4, h2, ra_kI, if_pos rfl]
theorem rz_case22 (L : Nat) (xs : Nat → Int32) (hL : L ≤ 3072) {i : Nat} (hi : i + 6 ≤ L) (σ : ra_S) (hR : rz_R σ) (H : rz_op 22) : ∃ σ2, rz_R σ2 ∧ ∀ o5 o6, ra_D (ra_lay, some (L, xs), 1734, ra_m253) 1131 (rz_lo i o5 o6) [] σ = some (.inr (rz_lo i o5 o6, []), σ2) := by
  have g1 : 0 ≤ (nI i + (1 : Int32)).toInt ∧ (nI i + (1 : Int32)).toInt < (L : Int) := rz_ix (k := 1) hi hL (by decide)
  have g2 : 0 ≤ (nI i + (2 : Int32)).toInt ∧ (nI i + (2 : Int32)).toInt < (L : Int) := rz_ix (k := 2) hi hL (by decide)
  have g3 : 0 ≤ (nI i + (3 : Int32)).toInt ∧ (nI i + (3 : Int32)).toInt < (L : Int) := rz_ix (k := 3) hi hL (by decide)
  obtain ⟨v, σ1, σ2, h1, h2, h3⟩ := H σ (xs (nI i + (1 : Int32)).toNatClampNeg) (xs (nI i + (2 : Int32)).toNatClampNeg) (xs (nI i + (3 : Int32)).toNatClampNeg) hR
  refine ⟨σ2, h3, fun o5 o6 => ?_⟩
  rw [e_253L_1131, if_pos g1, if_pos g2, if_pos g3, h1, ra_kI, if_pos g1, if_pos g2, if_pos g3, h2, ra_kI, if_pos rfl]
theorem rz_case23 (L : Nat) (xs : Nat → Int32) (hL : L ≤ 3072) {i : Nat} (hi : i + 6 ≤ L) (σ : ra_S) (hR : rz_R σ) (H : rz_op 23) : ∃ σ2, rz_R σ2 ∧ ∀ o5 o6, ra_D (ra_lay, some (L, xs), 1734, ra_m253) 1180 (rz_lo i o5 o6) [] σ = some (.inr (rz_lo i o5 o6, []), σ2) := by
  have g1 : 0 ≤ (nI i + (1 : Int32)).toInt ∧ (nI i + (1 : Int32)).toInt < (L : Int) := rz_ix (k := 1) hi hL (by decide)
  have g2 : 0 ≤ (nI i + (2 : Int32)).toInt ∧ (nI i + (2 : Int32)).toInt < (L : Int) := rz_ix (k := 2) hi hL (by decide)
  have g3 : 0 ≤ (nI i + (3 : Int32)).toInt ∧ (nI i + (3 : Int32)).toInt < (L : Int) := rz_ix (k := 3) hi hL (by decide)
  have g4 : 0 ≤ (nI i + (4 : Int32)).toInt ∧ (nI i + (4 : Int32)).toInt < (L : Int) := rz_ix (k := 4) hi hL (by decide)
  have g5 : 0 ≤ (nI i + (5 : Int32)).toInt ∧ (nI i + (5 : Int32)).toInt < (L : Int) := rz_ix (k := 5) hi hL (by decide)
  obtain ⟨v, σ1, σ2, h1, h2, h3⟩ := H σ (xs (nI i + (1 : Int32)).toNatClampNeg) (xs (nI i + (2 : Int32)).toNatClampNeg) (xs (nI i + (3 : Int32)).toNatClampNeg) (xs (nI i + (4 : Int32)).toNatClampNeg) (xs (nI i + (5 : Int32)).toNatClampNeg) hR
  refine ⟨σ2, h3, fun o5 o6 => ?_⟩
  rw [e_253L_1180, if_pos g1, if_pos g2, if_pos g3, if_pos g4, if_pos g5, h1, ra_kI, if_pos g1, if_pos g2, if_pos g3, if_pos g4, if_pos g5, h2, ra_kI, if_pos rfl]
theorem rz_case24 (L : Nat) (xs : Nat → Int32) (hL : L ≤ 3072) {i : Nat} (hi : i + 6 ≤ L) (σ : ra_S) (hR : rz_R σ) (H : rz_op 24) : ∃ σ2, rz_R σ2 ∧ ∀ o5 o6, ra_D (ra_lay, some (L, xs), 1734, ra_m253) 1253 (rz_lo i o5 o6) [] σ = some (.inr (rz_lo i o5 o6, []), σ2) := by
  have g1 : 0 ≤ (nI i + (1 : Int32)).toInt ∧ (nI i + (1 : Int32)).toInt < (L : Int) := rz_ix (k := 1) hi hL (by decide)
  obtain ⟨v, σ1, σ2, h1, h2, h3⟩ := H σ (xs (nI i + (1 : Int32)).toNatClampNeg) hR
  refine ⟨σ2, h3, fun o5 o6 => ?_⟩
  rw [e_253L_1253, if_pos g1, h1, ra_kI, if_pos g1, h2, ra_kI, if_pos rfl]
theorem rz_case25 (L : Nat) (xs : Nat → Int32) (hL : L ≤ 3072) {i : Nat} (hi : i + 6 ≤ L) (σ : ra_S) (hR : rz_R σ) (H : rz_op 25) : ∃ σ2, rz_R σ2 ∧ ∀ o5 o6, ra_D (ra_lay, some (L, xs), 1734, ra_m253) 1278 (rz_lo i o5 o6) [] σ = some (.inr (rz_lo i o5 o6, []), σ2) := by
  have g1 : 0 ≤ (nI i + (1 : Int32)).toInt ∧ (nI i + (1 : Int32)).toInt < (L : Int) := rz_ix (k := 1) hi hL (by decide)
  have g2 : 0 ≤ (nI i + (2 : Int32)).toInt ∧ (nI i + (2 : Int32)).toInt < (L : Int) := rz_ix (k := 2) hi hL (by decide)
  have g3 : 0 ≤ (nI i + (3 : Int32)).toInt ∧ (nI i + (3 : Int32)).toInt < (L : Int) := rz_ix (k := 3) hi hL (by decide)
  obtain ⟨v, σ1, σ2, h1, h2, h3⟩ := H σ (xs (nI i + (1 : Int32)).toNatClampNeg) (xs (nI i + (2 : Int32)).toNatClampNeg) (xs (nI i + (3 : Int32)).toNatClampNeg) hR
  refine ⟨σ2, h3, fun o5 o6 => ?_⟩
  rw [e_253L_1278, if_pos g1, if_pos g2, if_pos g3, h1, ra_kI, if_pos g1, if_pos g2, if_pos g3, h2, ra_kI, if_pos rfl]
theorem rz_case26 (L : Nat) (xs : Nat → Int32) (hL : L ≤ 3072) {i : Nat} (hi : i + 6 ≤ L) (σ : ra_S) (hR : rz_R σ) (H : rz_op 26) : ∃ σ2, rz_R σ2 ∧ ∀ o5 o6, ra_D (ra_lay, some (L, xs), 1734, ra_m253) 1327 (rz_lo i o5 o6) [] σ = some (.inr (rz_lo i o5 o6, []), σ2) := by
  have g1 : 0 ≤ (nI i + (1 : Int32)).toInt ∧ (nI i + (1 : Int32)).toInt < (L : Int) := rz_ix (k := 1) hi hL (by decide)
  obtain ⟨v, σ1, σ2, h1, h2, h3⟩ := H σ (xs (nI i + (1 : Int32)).toNatClampNeg) hR
  refine ⟨σ2, h3, fun o5 o6 => ?_⟩
  rw [e_253L_1327, if_pos g1, h1, ra_kI, if_pos g1, h2, ra_kI, if_pos rfl]
theorem rz_case27 (L : Nat) (xs : Nat → Int32) (hL : L ≤ 3072) {i : Nat} (hi : i + 6 ≤ L) (σ : ra_S) (hR : rz_R σ) (H : rz_op 27) : ∃ σ2, rz_R σ2 ∧ ∀ o5 o6, ra_D (ra_lay, some (L, xs), 1734, ra_m253) 1352 (rz_lo i o5 o6) [] σ = some (.inr (rz_lo i o5 o6, []), σ2) := by
  have g1 : 0 ≤ (nI i + (1 : Int32)).toInt ∧ (nI i + (1 : Int32)).toInt < (L : Int) := rz_ix (k := 1) hi hL (by decide)
  obtain ⟨v, σ1, σ2, h1, h2, h3⟩ := H σ (xs (nI i + (1 : Int32)).toNatClampNeg) hR
  refine ⟨σ2, h3, fun o5 o6 => ?_⟩
  rw [e_253L_1352, if_pos g1, h1, ra_kI, if_pos g1, h2, ra_kI, if_pos rfl]
theorem rz_case28 (L : Nat) (xs : Nat → Int32) (hL : L ≤ 3072) {i : Nat} (hi : i + 6 ≤ L) (σ : ra_S) (hR : rz_R σ) (H : rz_op 28) : ∃ σ2, rz_R σ2 ∧ ∀ o5 o6, ra_D (ra_lay, some (L, xs), 1734, ra_m253) 1377 (rz_lo i o5 o6) [] σ = some (.inr (rz_lo i o5 o6, []), σ2) := by
  have g1 : 0 ≤ (nI i + (1 : Int32)).toInt ∧ (nI i + (1 : Int32)).toInt < (L : Int) := rz_ix (k := 1) hi hL (by decide)
  have g2 : 0 ≤ (nI i + (2 : Int32)).toInt ∧ (nI i + (2 : Int32)).toInt < (L : Int) := rz_ix (k := 2) hi hL (by decide)
  obtain ⟨v, σ1, σ2, h1, h2, h3⟩ := H σ (xs (nI i + (1 : Int32)).toNatClampNeg) (xs (nI i + (2 : Int32)).toNatClampNeg) hR
  refine ⟨σ2, h3, fun o5 o6 => ?_⟩
  rw [e_253L_1377, if_pos g1, if_pos g2, h1, ra_kI, if_pos g1, if_pos g2, h2, ra_kI, if_pos rfl]
theorem rz_case29 (L : Nat) (xs : Nat → Int32) (hL : L ≤ 3072) {i : Nat} (hi : i + 6 ≤ L) (σ : ra_S) (hR : rz_R σ) (H : rz_op 29) : ∃ σ2, rz_R σ2 ∧ ∀ o5 o6, ra_D (ra_lay, some (L, xs), 1734, ra_m253) 1414 (rz_lo i o5 o6) [] σ = some (.inr (rz_lo i o5 o6, []), σ2) := by
  have g1 : 0 ≤ (nI i + (1 : Int32)).toInt ∧ (nI i + (1 : Int32)).toInt < (L : Int) := rz_ix (k := 1) hi hL (by decide)
  have g2 : 0 ≤ (nI i + (2 : Int32)).toInt ∧ (nI i + (2 : Int32)).toInt < (L : Int) := rz_ix (k := 2) hi hL (by decide)
  have g3 : 0 ≤ (nI i + (3 : Int32)).toInt ∧ (nI i + (3 : Int32)).toInt < (L : Int) := rz_ix (k := 3) hi hL (by decide)
  obtain ⟨v, σ1, σ2, h1, h2, h3⟩ := H σ (xs (nI i + (1 : Int32)).toNatClampNeg) (xs (nI i + (2 : Int32)).toNatClampNeg) (xs (nI i + (3 : Int32)).toNatClampNeg) hR
  refine ⟨σ2, h3, fun o5 o6 => ?_⟩
  rw [e_253L_1414, if_pos g1, if_pos g2, if_pos g3, h1, ra_kI, if_pos g1, if_pos g2, if_pos g3, h2, ra_kI, if_pos rfl]
theorem rz_case30 (L : Nat) (xs : Nat → Int32) (hL : L ≤ 3072) {i : Nat} (hi : i + 6 ≤ L) (σ : ra_S) (hR : rz_R σ) (H : rz_op 30) : ∃ σ2, rz_R σ2 ∧ ∀ o5 o6, ra_D (ra_lay, some (L, xs), 1734, ra_m253) 1463 (rz_lo i o5 o6) [] σ = some (.inr (rz_lo i o5 o6, []), σ2) := by
  have g1 : 0 ≤ (nI i + (1 : Int32)).toInt ∧ (nI i + (1 : Int32)).toInt < (L : Int) := rz_ix (k := 1) hi hL (by decide)
  have g2 : 0 ≤ (nI i + (2 : Int32)).toInt ∧ (nI i + (2 : Int32)).toInt < (L : Int) := rz_ix (k := 2) hi hL (by decide)
  have g3 : 0 ≤ (nI i + (3 : Int32)).toInt ∧ (nI i + (3 : Int32)).toInt < (L : Int) := rz_ix (k := 3) hi hL (by decide)
  have g4 : 0 ≤ (nI i + (4 : Int32)).toInt ∧ (nI i + (4 : Int32)).toInt < (L : Int) := rz_ix (k := 4) hi hL (by decide)
  have g5 : 0 ≤ (nI i + (5 : Int32)).toInt ∧ (nI i + (5 : Int32)).toInt < (L : Int) := rz_ix (k := 5) hi hL (by decide)
  obtain ⟨v, σ1, σ2, h1, h2, h3⟩ := H σ (xs (nI i + (1 : Int32)).toNatClampNeg) (xs (nI i + (2 : Int32)).toNatClampNeg) (xs (nI i + (3 : Int32)).toNatClampNeg) (xs (nI i + (4 : Int32)).toNatClampNeg) (xs (nI i + (5 : Int32)).toNatClampNeg) hR
  refine ⟨σ2, h3, fun o5 o6 => ?_⟩
  rw [e_253L_1463, if_pos g1, if_pos g2, if_pos g3, if_pos g4, if_pos g5, h1, ra_kJ, if_pos g1, if_pos g2, if_pos g3, if_pos g4, if_pos g5, h2, ra_kJ, rz_cmp0, if_pos rfl]
theorem rz_case31 (L : Nat) (xs : Nat → Int32) (hL : L ≤ 3072) {i : Nat} (hi : i + 6 ≤ L) (σ : ra_S) (hR : rz_R σ) (H : rz_op 31) : ∃ σ2, rz_R σ2 ∧ ∀ o5 o6, ra_D (ra_lay, some (L, xs), 1734, ra_m253) 1537 (rz_lo i o5 o6) [] σ = some (.inr (rz_lo i o5 o6, []), σ2) := by
  have g1 : 0 ≤ (nI i + (1 : Int32)).toInt ∧ (nI i + (1 : Int32)).toInt < (L : Int) := rz_ix (k := 1) hi hL (by decide)
  have g2 : 0 ≤ (nI i + (2 : Int32)).toInt ∧ (nI i + (2 : Int32)).toInt < (L : Int) := rz_ix (k := 2) hi hL (by decide)
  obtain ⟨v, σ1, σ2, h1, h2, h3⟩ := H σ (xs (nI i + (1 : Int32)).toNatClampNeg) (xs (nI i + (2 : Int32)).toNatClampNeg) hR
  refine ⟨σ2, h3, fun o5 o6 => ?_⟩
  rw [e_253L_1537, if_pos g1, if_pos g2, h1, ra_kI, if_pos g1, if_pos g2, h2, ra_kI, if_pos rfl]
theorem rz_case32 (L : Nat) (xs : Nat → Int32) (hL : L ≤ 3072) {i : Nat} (hi : i + 6 ≤ L) (σ : ra_S) (hR : rz_R σ) (H : rz_op 32) : ∃ σ2, rz_R σ2 ∧ ∀ o5 o6, ra_D (ra_lay, some (L, xs), 1734, ra_m253) 1574 (rz_lo i o5 o6) [] σ = some (.inr (rz_lo i o5 o6, []), σ2) := by
  have g1 : 0 ≤ (nI i + (1 : Int32)).toInt ∧ (nI i + (1 : Int32)).toInt < (L : Int) := rz_ix (k := 1) hi hL (by decide)
  have g2 : 0 ≤ (nI i + (2 : Int32)).toInt ∧ (nI i + (2 : Int32)).toInt < (L : Int) := rz_ix (k := 2) hi hL (by decide)
  have g3 : 0 ≤ (nI i + (3 : Int32)).toInt ∧ (nI i + (3 : Int32)).toInt < (L : Int) := rz_ix (k := 3) hi hL (by decide)
  obtain ⟨v, σ1, σ2, h1, h2, h3⟩ := H σ (xs (nI i + (1 : Int32)).toNatClampNeg) (xs (nI i + (2 : Int32)).toNatClampNeg) (xs (nI i + (3 : Int32)).toNatClampNeg) hR
  refine ⟨σ2, h3, fun o5 o6 => ?_⟩
  rw [e_253L_1574, if_pos g1, if_pos g2, if_pos g3, h1, ra_kI, if_pos g1, if_pos g2, if_pos g3, h2, ra_kI, if_pos rfl]
theorem rz_case33 (L : Nat) (xs : Nat → Int32) (hL : L ≤ 3072) {i : Nat} (hi : i + 6 ≤ L) (σ : ra_S) (hR : rz_R σ) (H : rz_op 33) : ∃ σ2, rz_R σ2 ∧ ∀ o5 o6, ra_D (ra_lay, some (L, xs), 1734, ra_m253) 1623 (rz_lo i o5 o6) [] σ = some (.inr (rz_lo i o5 o6, []), σ2) := by
  have g1 : 0 ≤ (nI i + (1 : Int32)).toInt ∧ (nI i + (1 : Int32)).toInt < (L : Int) := rz_ix (k := 1) hi hL (by decide)
  obtain ⟨v, σ1, σ2, h1, h2, h3⟩ := H σ (xs (nI i + (1 : Int32)).toNatClampNeg) hR
  refine ⟨σ2, h3, fun o5 o6 => ?_⟩
  rw [e_253L_1623, if_pos g1, h1, ra_kI, if_pos g1, h2, ra_kI, if_pos rfl]
theorem rz_case34 (L : Nat) (xs : Nat → Int32) (hL : L ≤ 3072) {i : Nat} (hi : i + 6 ≤ L) (σ : ra_S) (hR : rz_R σ) (H : rz_op 34) : ∃ σ2, rz_R σ2 ∧ ∀ o5 o6, ra_D (ra_lay, some (L, xs), 1734, ra_m253) 1648 (rz_lo i o5 o6) [] σ = some (.inr (rz_lo i o5 o6, []), σ2) := by
  have g1 : 0 ≤ (nI i + (1 : Int32)).toInt ∧ (nI i + (1 : Int32)).toInt < (L : Int) := rz_ix (k := 1) hi hL (by decide)
  have g2 : 0 ≤ (nI i + (2 : Int32)).toInt ∧ (nI i + (2 : Int32)).toInt < (L : Int) := rz_ix (k := 2) hi hL (by decide)
  have g3 : 0 ≤ (nI i + (3 : Int32)).toInt ∧ (nI i + (3 : Int32)).toInt < (L : Int) := rz_ix (k := 3) hi hL (by decide)
  have g4 : 0 ≤ (nI i + (4 : Int32)).toInt ∧ (nI i + (4 : Int32)).toInt < (L : Int) := rz_ix (k := 4) hi hL (by decide)
  obtain ⟨v, σ1, σ2, h1, h2, h3⟩ := H σ (xs (nI i + (1 : Int32)).toNatClampNeg) (xs (nI i + (2 : Int32)).toNatClampNeg) (xs (nI i + (3 : Int32)).toNatClampNeg) (xs (nI i + (4 : Int32)).toNatClampNeg) hR
  refine ⟨σ2, h3, fun o5 o6 => ?_⟩
  rw [e_253L_1648, if_pos g1, if_pos g2, if_pos g3, if_pos g4, h1, ra_kI, if_pos g1, if_pos g2, if_pos g3, if_pos g4, h2, ra_kI, if_pos rfl]
theorem rz_case35 (L : Nat) (xs : Nat → Int32) (hL : L ≤ 3072) {i : Nat} (hi : i + 6 ≤ L) (σ : ra_S) (hR : rz_R σ) (H : rz_op 35) : ∃ σ2, rz_R σ2 ∧ ∀ o5 o6, ra_D (ra_lay, some (L, xs), 1734, ra_m253) 1709 (rz_lo i o5 o6) [] σ = some (.inr (rz_lo i o5 o6, []), σ2) := by
  have g1 : 0 ≤ (nI i + (1 : Int32)).toInt ∧ (nI i + (1 : Int32)).toInt < (L : Int) := rz_ix (k := 1) hi hL (by decide)
  obtain ⟨v, σ1, σ2, h1, h2, h3⟩ := H σ (xs (nI i + (1 : Int32)).toNatClampNeg) hR
  refine ⟨σ2, h3, fun o5 o6 => ?_⟩
  rw [e_253L_1709, if_pos g1, h1, ra_kI, if_pos g1, h2, ra_kI, if_pos rfl]
