-- ===== two who follow each other; chance =====
/-- entries of some players who go by each other alone -/
theorem rz_e_cong {E1 E2 : rz_En} {np : Nat} (P : Nat → Prop) (hw : ∀ p, P p → ∀ j, j < 4 → rz_w E1 p j = rz_w E2 p j) (hh : ∀ p, P p → rz_hb E1 p = rz_hb E2 p) (hb : ∀ n, rz_bg E1 n = rz_bg E2 n) (hx : ∀ b p, P p → rz_ex E1 b p = rz_ex E2 b p) (hs : ∀ p q, P p → q < np → rz_see E1 p q = rz_see E2 p q ∧ (rz_see E1 p q = true → P q)) (he : ∀ p q, P p → q < np → rz_hear E1 p q = rz_hear E2 p q ∧ (rz_hear E1 p q = true → P q) ∧ rz_dl E1 p q = rz_dl E2 p q) : ∀ b p, P p → rz_e E1 np b p = rz_e E2 np b p := by
  have fold : ∀ (b : Nat) (g : Int) (r1 r1' : Nat → Int) (p : Nat), P p → (∀ q, P q → r1 q = r1' q) → ∀ n, n ≤ np → rz_fold E1 b g r1 p n = rz_fold E2 b g r1' p n := by
    intro b g r1 r1' p hp hr n
    induction n with
    | zero => intro _; rw [rz_fold, rz_fold, hw p hp 0 (by omega), hw p hp 1 (by omega), hh p hp, hb b, hr p hp]
    | succ n ih =>
      intro hn
      have i := ih (by omega)
      obtain ⟨s1, s2⟩ := hs p n hp (by omega)
      obtain ⟨h1, h2, h3⟩ := he p n hp (by omega)
      rw [rz_fold, rz_fold, i, hw p hp 2 (by omega), hw p hp 3 (by omega), h3, ← s1, ← h1]
      have a1 : (if rz_see E1 p n = true then rz_w E2 p 2 else 0) * (r1 n + g) = (if rz_see E1 p n = true then rz_w E2 p 2 else 0) * (r1' n + g) := by
        by_cases z : rz_see E1 p n = true
        · rw [hr n (s2 z)]
        · rw [if_neg z, Int.zero_mul, Int.zero_mul]
      have a2 : (if rz_hear E1 p n = true then rz_w E2 p 3 else 0) * (r1 n + g + rz_dl E2 p n) = (if rz_hear E1 p n = true then rz_w E2 p 3 else 0) * (r1' n + g + rz_dl E2 p n) := by
        by_cases z : rz_hear E1 p n = true
        · rw [hr n (h2 z)]
        · rw [if_neg z, Int.zero_mul, Int.zero_mul]
      rw [a1, a2]
  have rows : ∀ b, (∀ p, P p → (rz_row E1 np b).1 p = (rz_row E2 np b).1 p) ∧ ∀ p, P p → (rz_row E1 np b).2 p = (rz_row E2 np b).2 p := by
    intro b
    induction b with
    | zero =>
      refine ⟨fun p hp => ?_, fun p hp => rfl⟩
      show rz_cl (rz_bg E1 0 + rz_hb E1 p + rz_ex E1 0 p) = rz_cl (rz_bg E2 0 + rz_hb E2 p + rz_ex E2 0 p)
      rw [hb 0, hh p hp, hx 0 p hp]
    | succ b ih =>
      obtain ⟨i1, i2⟩ := ih
      refine ⟨fun p hp => ?_, i1⟩
      show rz_cl (rz_mid E1 np (b + 1) (rz_row E1 np b).1 (rz_row E1 np b).2 p + rz_ex E1 (b + 1) p) = rz_cl (rz_mid E2 np (b + 1) (rz_row E2 np b).1 (rz_row E2 np b).2 p + rz_ex E2 (b + 1) p)
      have g : rz_gap E1 (b + 1) (rz_row E1 np b).1 (rz_row E1 np b).2 p = rz_gap E2 (b + 1) (rz_row E2 np b).1 (rz_row E2 np b).2 p := by
        unfold rz_gap
        rw [hb 1, i1 p hp, i2 p hp]
      unfold rz_mid
      rw [g, fold (b + 1) _ _ _ p hp i1 np (Nat.le_refl _), hx (b + 1) p hp, i1 p hp]
  intro b p hp
  exact (rows b).1 p hp
theorem rz_andN32 (a b : Nat) : nI a &&& nI b = nI (a &&& b) := by
  apply Int32.toBitVec_inj.mp
  rw [Int32.toBitVec_and]
  exact BitVec.ofNat_and.symm
theorem rz_sh8 : ∀ k : Fin 8, (1 : Int32) <<< (nI k.val &&& 31) = nI (2 ^ k.val) := by decide +kernel
theorem rz_bit_and {n k q : Nat} (hn : n < 256) (hk : k < 8) (hq : q < 8) : rz_bit (nI n &&& ((1 : Int32) <<< (nI k &&& 31))) q = (rz_bit (nI n) q && decide (k = q)) := by
  rw [rz_sh8 ⟨k, hk⟩, rz_andN32, rz_bitn (Nat.lt_of_le_of_lt Nat.and_le_left hn) hq, rz_bitn hn hq, Nat.testBit_and, Nat.testBit_two_pow]
theorem rz_leave2 {τ : ra_S} {p q : Nat} (hp : p < 8) : ra_C 2 [.ref 62, .int (nI p), .int (nI q)] τ = ra_V (ra_ui (ra_ui (ra_ui τ 66 p (τ.1 66 p ||| 1)) 67 p (τ.1 67 p &&& ((1 : Int32) <<< (nI q &&& 31)))) 68 p (τ.1 68 p &&& ((1 : Int32) <<< (nI q &&& 31)))) := by
  rw [e_2, e_9, if_neg (nI_pos (by omega)), show (8 : Int32) = nI 8 from rfl, rz_il (by omega) hp, ra_kI, if_neg (by decide)]
  repeat rw [rz_ig (by omega) (by omega)]
  rw [nI_clamp (by omega)]
/-- the class's setting of two -/
def rz_T2 (T : Nat → Int32) (i k : Nat) : Nat → Int32 := fun q => if q = i ∨ q = k then T q ||| 1 else T q
def rz_S2 (S : Nat → Nat → Bool) (i k : Nat) : Nat → Nat → Bool := fun p q => if p = i then S p q && decide (k = q) else if p = k then S p q && decide (i = q) else S p q
/-- the reference's -/
def rz_S3 (S : Nat → Nat → Bool) (i k : Nat) : Nat → Nat → Bool := fun p q => (decide (q = i) || decide (q = k)) && S p q
set_option maxHeartbeats 2000000 in
theorem rz_two {σ : ra_S} (h : rz_R σ) (a b c : Int32) : rz_OI 125 241 [.int a, .int b, .int c] σ := by
  obtain ⟨np, nb, nl, nw, len, hB⟩ := rz_base_of h
  have f0 := rz_ft.rf σ
  have f0' := f0.u2 (x := 0)
  obtain ⟨⟨c1, c2, c3⟩, ⟨c4, c5, c6⟩, -⟩ := id hB.1
  by_cases v1 : 0 ≤ a.toInt ∧ a.toInt < np
  · by_cases v2 : 0 ≤ b.toInt ∧ b.toInt < np
    · by_cases v3 : a = b
      · refine ⟨-2147483648, σ, ra_ui σ 86 2 0, ?_, ?_, rz_R_ft f0' h⟩
        · rw [e_125, rz_kPc hB f0, ra_kI, rz_t v1, rz_kPc hB f0, ra_kI, rz_t v2, if_pos v3]
        · rw [e_241, rz_kPm hB f0', ra_kI, rz_t v1, rz_kPm hB f0', ra_kI, rz_t v2, if_pos v3]
      · by_cases v4 : 1 < c.toInt
        · have g1 : (1 : Int32) < c := by rw [Int32.lt_iff_toInt_lt]; exact v4
          have g2 : ¬ c < (2 : Int32) := by rw [Int32.lt_iff_toInt_lt]; show ¬ c.toInt < 2; omega
          by_cases v5 : 0 ≤ c.toInt ∧ c.toInt < nb
          · obtain ⟨i, hi, rfl⟩ := rz_nat (by omega) v1
            obtain ⟨k, hk, rfl⟩ := rz_nat (by omega) v2
            obtain ⟨n, hn, rfl⟩ := rz_nat (by omega) v5
            have nik : i ≠ k := fun y => v3 (by rw [y])
            have n2 : 2 ≤ n := by rw [nI_toInt (by omega)] at v4; omega
            have p2 := rz_p2 c3
            have no : ∀ p, p < np → rz_S0 σ p p = false ∧ rz_H0 σ p p = false := fun p hp => by
              obtain ⟨-, -, -, -, ⟨x, ⟨x1, x2⟩, -, x3⟩, ⟨y, ⟨y1, y2⟩, -, y3⟩⟩ := hB.2.2.1 p hp
              unfold rz_S0 rz_H0
              rw [x3, y3, rz_bitn (by omega) (by omega), rz_bitn (by omega) (by omega)]
              exact ⟨x2, y2⟩
            obtain ⟨υ, e, f1, fit, q1, q2, q3, q4, q5, q6, q7⟩ := rz_fillF hB f0
            generalize hτ : ra_ui (ra_ui (ra_ui υ 66 i (υ.1 66 i ||| 1)) 67 i (υ.1 67 i &&& ((1 : Int32) <<< (nI k &&& 31)))) 68 i (υ.1 68 i &&& ((1 : Int32) <<< (nI k &&& 31))) = υ1
            generalize hτ2 : ra_ui (ra_ui (ra_ui υ1 66 k (υ1.1 66 k ||| 1)) 67 k (υ1.1 67 k &&& ((1 : Int32) <<< (nI i &&& 31)))) 68 k (υ1.1 68 k &&& ((1 : Int32) <<< (nI i &&& 31))) = υ2
            have fr : ∀ c, c ≠ 66 → c ≠ 67 → c ≠ 68 → υ2.1 c = υ.1 c := fun c k1 k2 k3 => by
              rw [← hτ2, ra_ui_1 c k3, ra_ui_1 c k2, ra_ui_1 c k1, ← hτ, ra_ui_1 c k3, ra_ui_1 c k2, ra_ui_1 c k1]
            have f2 : rz_ft σ υ2 := rz_ft.of f1 (fun c hc => fr c (by omega) (by omega) (by omega))
            have w66 : ∀ q, υ2.1 66 q = if q = k then υ.1 66 q ||| 1 else if q = i then υ.1 66 q ||| 1 else υ.1 66 q := fun q => by
              rw [← hτ2, ← hτ]
              simp only [ra_ui_get, Nat.reduceEqDiff, false_and, if_false, true_and]
              by_cases z : q = k
              · subst z; simp only [if_true, if_neg (fun y : q = i => nik y.symm)]
              · simp only [if_neg z]
                by_cases y : q = i
                · subst y; simp only [if_true]
                · simp only [if_neg y]
            have w67 : ∀ q, υ2.1 67 q = if q = k then υ.1 67 q &&& ((1 : Int32) <<< (nI i &&& 31)) else if q = i then υ.1 67 q &&& ((1 : Int32) <<< (nI k &&& 31)) else υ.1 67 q := fun q => by
              rw [← hτ2, ← hτ]
              simp only [ra_ui_get, Nat.reduceEqDiff, false_and, if_false, true_and]
              by_cases z : q = k
              · subst z; simp only [if_true, if_neg (fun y : q = i => nik y.symm)]
              · simp only [if_neg z]
                by_cases y : q = i
                · subst y; simp only [if_true]
                · simp only [if_neg y]
            have w68 : ∀ q, υ2.1 68 q = if q = k then υ.1 68 q &&& ((1 : Int32) <<< (nI i &&& 31)) else if q = i then υ.1 68 q &&& ((1 : Int32) <<< (nI k &&& 31)) else υ.1 68 q := fun q => by
              rw [← hτ2, ← hτ]
              simp only [ra_ui_get, Nat.reduceEqDiff, false_and, if_false, true_and]
              by_cases z : q = k
              · subst z; simp only [if_true, if_neg (fun y : q = i => nik y.symm)]
              · simp only [if_neg z]
                by_cases y : q = i
                · subst y; simp only [if_true]
                · simp only [if_neg y]
            have fit2 : rz_fitC np nl (rz_lw0 σ) (rz_X0 σ) (rz_Y0 σ) (rz_T2 (σ.1 101) i k) (rz_S2 (rz_S0 σ) i k) (rz_S2 (rz_H0 σ) i k) false υ2 := by
              intro p hp
              obtain ⟨k1, k2, k3, k4, k5, k6, k7, k8⟩ := fit p hp
              obtain ⟨-, -, -, -, ⟨x, ⟨x1, -⟩, -, x3⟩, ⟨y, ⟨y1, -⟩, -, y3⟩⟩ := hB.2.2.1 p hp
              refine ⟨by rw [fr 65 (by decide) (by decide) (by decide)]; exact k1, k2, by rw [fr 63 (by decide) (by decide) (by decide)]; exact k3, by rw [fr 64 (by decide) (by decide) (by decide)]; exact k4, k5, k6, fun j hj => ?_, fun q hq => ?_⟩
              · rw [w66, (q3 p hp).1, Bool.and_false, Bool.or_false]
                unfold rz_T2
                by_cases z : p = k
                · rw [if_pos z, if_pos (Or.inr z)]
                · rw [if_neg z]
                  by_cases y : p = i
                  · rw [if_pos y, if_pos (Or.inl y)]
                  · rw [if_neg y, if_neg (fun w => by rcases w with w | w; exact y w; exact z w)]
              · rw [w67, w68, (q3 p hp).2.1, (q3 p hp).2.2]
                unfold rz_S2 rz_S0 rz_H0
                by_cases z : p = k
                · have zi : ¬ p = i := fun y => nik (y.symm.trans z)
                  simp only [if_pos z, if_neg zi, x3, y3]
                  rw [rz_bit_and (by omega) (by omega) (by omega), rz_bit_and (by omega) (by omega) (by omega)]
                  exact ⟨rfl, rfl⟩
                · by_cases y : p = i
                  · simp only [if_neg z, if_pos y, x3, y3]
                    rw [rz_bit_and (by omega) (by omega) (by omega), rz_bit_and (by omega) (by omega) (by omega)]
                    exact ⟨rfl, rfl⟩
                  · simp only [if_neg z, if_neg y]
                    exact ⟨trivial, trivial⟩
            obtain ⟨υ3, e3, f3, m1, m2, m3, m4, m5⟩ := rz_goC hB f2 fit2 (xp := 0) (xb := 0) (s := 0) (j := 0) (xv := 0) (by omega) (by rw [fr 62 (by decide) (by decide) (by decide)]; exact q7) (by omega) (by omega) (fun b p _ _ => rz_noX (nb := nb) (np := np) (by rw [fr 62 (by decide) (by decide) (by decide)]; exact q6) b p) (Or.inl rfl)
            -- the reference
            generalize hτ4 : ra_ui (ra_ui (ra_ui υ3 86 2 0) 86 39 (nI i)) 86 40 (nI k) = τ4
            have fr4 : ∀ c, c ≠ 86 → τ4.1 c = υ3.1 c := fun c hc => by rw [← hτ4, ra_ui_1 c hc, ra_ui_1 c hc, ra_ui_1 c hc]
            have fr86 : ∀ j, j ≠ 2 → j ≠ 39 → j ≠ 40 → τ4.1 86 j = σ.1 86 j := fun j j1 j2 j3 => by
              rw [← hτ4, ra_ui_get, if_neg (fun y => j3 y.2), ra_ui_get, if_neg (fun y => j2 y.2), ra_ui_get, if_neg (fun y => j1 y.2)]; exact f3.2 j j1
            have s39 : τ4.1 86 39 = nI i := by rw [← hτ4]; simp only [ra_ui_get, Nat.reduceEqDiff, and_false, and_self, if_false, if_true]
            have s40 : τ4.1 86 40 = nI k := by rw [← hτ4]; simp only [ra_ui_get, and_self, if_true]
            have on4 : ∀ q, q < np → rz_on τ4 q = (decide (q = i) || decide (q = k)) := fun q hq => by
              unfold rz_on
              rw [s39, s40, decide_eq_false (nI_pos (by omega)), Bool.false_or]
              congr 1
              · exact decide_eq_decide.mpr (nI_eq (by omega) (by omega))
              · exact decide_eq_decide.mpr (nI_eq (by omega) (by omega))
            have fitm : rz_fitM np nl (rz_lw0 σ) (rz_X0 σ) (rz_Y0 σ) (σ.1 101) (rz_S3 (rz_S0 σ) i k) (rz_S3 (rz_H0 σ) i k) true σ τ4 := by
              obtain ⟨-, k1, k2, k3, k4, k5⟩ := rz_fitM_ft hB f3
              refine ⟨by rw [s39]; exact (decide_eq_true (nI_pos (by omega))).symm, by rw [fr4 91 (by decide)]; exact k1, by rw [fr4 89 (by decide)]; exact k2, fr86 14 (by decide) (by decide) (by decide), fr86 12 (by decide) (by decide) (by decide), fun q hq => ?_⟩
              obtain ⟨l1, l2, l3, l4, l5, l6, l7, l8, l9⟩ := k5 q hq
              rw [fr4 93 (by decide), fr4 101 (by decide)]
              refine ⟨l1, l2, l3, l4, l5, l6, l7, l8, fun q' hq' => ?_⟩
              rw [on4 q' hq', fr4 94 (by decide), fr4 95 (by decide), f3.1 94 (by omega), f3.1 95 (by omega)]
              exact ⟨rfl, rfl⟩
            have mw : rz_MW (rz_fw σ) nw τ4 := by
              have := rz_MW_ft hB f3
              unfold rz_MW at this ⊢
              rw [fr86 15 (by decide) (by decide) (by decide), fr4 96 (by decide)]
              rw [f3.2 15 (by decide)] at this
              exact this
            obtain ⟨υ5, e5, k1, k2, k3, k4⟩ := rz_goM hB fitm (xp := 0) (xb := 0) (s := 0) (j := 0) (xv := 0) (by omega) (by omega) (by omega) (Or.inl ⟨mw, rfl⟩) (Or.inl ⟨by rw [fr86 41 (by decide) (by decide) (by decide)]; exact hB.2.2.2.2.2.2.2.2.1, rfl⟩)
            -- both are the same
            have same := rz_e_cong (np := np) (E1 := rz_mkE σ len (rz_lw0 σ) (rz_X0 σ) (rz_Y0 σ) (rz_T2 (σ.1 101) i k) (rz_S2 (rz_S0 σ) i k) (rz_S2 (rz_H0 σ) i k) false (rz_exf σ np nw 0 0 0 0 0)) (E2 := rz_mkE σ len (rz_lw0 σ) (rz_X0 σ) (rz_Y0 σ) (σ.1 101) (rz_S3 (rz_S0 σ) i k) (rz_S3 (rz_H0 σ) i k) true (rz_exf σ np nw 0 0 0 0 0)) (fun p => p = i ∨ p = k) (fun p hp j hj => by
                show (if rz_bit (rz_T2 (σ.1 101) i k p) j = true then 0 else if j = 0 ∧ false = true then 0 else (σ.1 91 (6 * rz_lw0 σ p + j)).toInt) = (if rz_bit (σ.1 101 p) j = true then 0 else if j = 0 ∧ true = true then 0 else (σ.1 91 (6 * rz_lw0 σ p + j)).toInt)
                have pl : p < np := by omega
                obtain ⟨t, ht⟩ := rz_p16 (hB.2.2.2.2.2.1 p pl).2.2.2
                have bo := rz_b_or t ⟨0, by omega⟩ ⟨j, hj⟩
                unfold rz_T2
                rw [if_pos hp, ht]
                have bo' : rz_bit (nI t.val ||| 1) j = (rz_bit (nI t.val) j || decide (j = 0)) := bo
                rw [bo']
                by_cases z : rz_bit (nI t.val) j = true
                · rw [z, Bool.true_or, if_pos rfl, if_pos rfl]
                · rw [Bool.eq_false_iff.mpr z, Bool.false_or, if_neg (by decide : ¬ (false = true))]
                  by_cases y : j = 0
                  · rw [decide_eq_true y, if_pos rfl, if_pos ⟨y, rfl⟩]
                  · rw [decide_eq_false y, if_neg (by decide), if_neg (fun w => y w.1), if_neg (fun w => y w.1)]) (fun p hp => rfl) (fun n => rfl) (fun b p hp => rfl) (fun p q hp hq => by
                show rz_S2 (rz_S0 σ) i k p q = rz_S3 (rz_S0 σ) i k p q ∧ (rz_S2 (rz_S0 σ) i k p q = true → q = i ∨ q = k)
                unfold rz_S2 rz_S3
                rcases hp with rfl | rfl
                · rw [if_pos rfl]
                  by_cases y : q = p
                  · subst y; rw [(no q hq).1]; simp
                  · by_cases w : q = k
                    · subst w; simp
                    · simp [y, w]; exact fun _ y' => w y'.symm
                · rw [if_neg (fun y => nik y.symm), if_pos rfl]
                  by_cases y : q = p
                  · subst y; rw [(no q hq).1]; simp
                  · by_cases w : q = i
                    · subst w; simp
                    · simp [y, w]; exact fun _ y' => w y'.symm) (fun p q hp hq => by
                show rz_S2 (rz_H0 σ) i k p q = rz_S3 (rz_H0 σ) i k p q ∧ (rz_S2 (rz_H0 σ) i k p q = true → q = i ∨ q = k) ∧ _
                rw [← and_assoc]
                refine ⟨?_, rfl⟩
                unfold rz_S2 rz_S3
                rcases hp with rfl | rfl
                · rw [if_pos rfl]
                  by_cases y : q = p
                  · subst y; rw [(no q hq).2]; simp
                  · by_cases w : q = k
                    · subst w; simp
                    · simp [y, w]; exact fun _ y' => w y'.symm
                · rw [if_neg (fun y => nik y.symm), if_pos rfl]
                  by_cases y : q = p
                  · subst y; rw [(no q hq).2]; simp
                  · by_cases w : q = i
                    · subst w; simp
                    · simp [y, w]; exact fun _ y' => w y'.symm)
            obtain ⟨E2, hE2⟩ : ∃ E2, E2 = rz_mkE σ len (rz_lw0 σ) (rz_X0 σ) (rz_Y0 σ) (σ.1 101) (rz_S3 (rz_S0 σ) i k) (rz_S3 (rz_H0 σ) i k) true (rz_exf σ np nw 0 0 0 0 0) := ⟨_, rfl⟩
            rw [← hE2] at k3 same
            have A : ∀ m, m < nb → υ3.1 73 (8 * m + i) = Int32.ofInt (rz_e E2 np m i) := fun m hm => by rw [m4 m i hm hi, same m i (Or.inl rfl)]
            have Bm : ∀ m, m < nb → υ5.1 102 (8 * m + i) = Int32.ofInt (rz_e E2 np m i) := fun m hm => k3 m i hm hi (by rw [on4 i hi]; simp)
            have i1 := rz_e_in E2 np (n - 1) i
            have i2 := rz_e_in E2 np (n - 2) i
            have sl : rz_sum len 1 ≤ 10000000 := Nat.le_trans (rz_sum_mono len (show 1 ≤ nb by omega)) hB.2.2.2.1.2.2
            have b25 : υ3.1 25 1 = Int32.ofInt (rz_sum len 1 : Int) := by rw [f3.1 25 (by omega), hB.2.2.2.1.2.1 1 (by omega)]; rfl
            have fu : rz_ft σ (ra_ui (ra_ui υ5 86 39 (-1)) 86 40 (-1)) := by
              refine ⟨fun c hc => ?_, fun j hj => ?_⟩
              · rw [ra_ui_1 c (by omega), ra_ui_1 c (by omega), k1 c (by omega), fr4 c (by omega)]; exact f3.1 c hc
              · by_cases z : j = 40
                · subst z; rw [ra_ui_get, if_pos ⟨rfl, rfl⟩]; exact hB.2.2.2.2.2.2.2.1.1.symm
                · rw [ra_ui_get, if_neg (fun y => z y.2)]
                  by_cases y : j = 39
                  · subst y; rw [ra_ui_get, if_pos ⟨rfl, rfl⟩]; exact hB.2.2.2.2.2.2.1.symm
                  · rw [ra_ui_get, if_neg (fun x => y x.2), k1 86 (by decide)]; exact fr86 j hj y z
            refine ⟨Int32.ofInt (rz_e E2 np (n - 1) i - rz_e E2 np (n - 2) i - (rz_sum len 1 : Int)), υ3, ra_ui (ra_ui υ5 86 39 (-1)) 86 40 (-1), ?_, ?_, rz_R_ft fu h⟩
            · rw [e_125, rz_kPc hB f0, ra_kI, rz_t v1, rz_kPc hB f0, ra_kI, rz_t v2, if_neg v3, if_pos g1, rz_kBc hB f0, ra_kI, rz_t v5, e, ra_kV, rz_leave2 (by omega), ra_kV, hτ, rz_leave2 (by omega), ra_kV, hτ2, e3, ra_kV, e_46, if_pos g1, show nI n - (1 : Int32) = nI (n - 1) from pk_sub (a := n) (b := 1) (by omega), show nI n - (2 : Int32) = nI (n - 2) from pk_sub (a := n) (b := 2) (by omega), rz_c_at (by omega) (by omega), ra_kI, rz_c_at (by omega) (by omega), ra_kI, ra_kJ, e_46, if_neg (by decide), ra_kJ, A (n - 1) (by omega), A (n - 2) (by omega), b25, rz_oL i1, rz_oL i2, rz_oL (by omega), rz_L_sub, rz_L_sub, rz_tt (by omega) (by omega)]
            · have be := rz_beginOf (τ := ra_ui (ra_ui υ5 86 39 (-1)) 86 40 (-1)) (nb := nb) (n := 1) (len := len) (fun j hj => by rw [fu.1 89 (by omega)]; exact hB.2.2.2.1.1 j hj) (by omega) c6
              rw [e_241, rz_kPm hB f3.u2, ra_kI, rz_t v1, rz_kPm hB f3.u2, ra_kI, rz_t v2, if_neg v3, if_neg g2, rz_kBm hB f3.u2, ra_kI, rz_t v5, hτ4, e5, ra_kV, show nI n - (1 : Int32) = nI (n - 1) from pk_sub (a := n) (b := 1) (by omega), show nI n - (2 : Int32) = nI (n - 2) from pk_sub (a := n) (b := 2) (by omega), show (8 : Int32) * nI (n - 1) = nI (8 * (n - 1)) from pk_mul 8 _, show (8 : Int32) * nI (n - 2) = nI (8 * (n - 2)) from pk_mul 8 _, nI_add, nI_add, rz_ig (by omega) (by omega), rz_ig (by omega) (by omega), nI_clamp (by omega), nI_clamp (by omega), Bm (n - 1) (by omega), Bm (n - 2) (by omega), show ra_C 182 [.ref 86, .int (1 : Int32)] (ra_ui (ra_ui υ5 86 39 (-1)) 86 40 (-1)) = _ from be, ra_kI, rz_nIo, ← Int32.ofInt_sub, ← Int32.ofInt_sub]
          · refine ⟨-2147483648, σ, ra_ui σ 86 2 0, ?_, ?_, rz_R_ft f0' h⟩
            · rw [e_125, rz_kPc hB f0, ra_kI, rz_t v1, rz_kPc hB f0, ra_kI, rz_t v2, if_neg v3, if_pos g1, rz_kBc hB f0, ra_kI, rz_f v5]
            · rw [e_241, rz_kPm hB f0', ra_kI, rz_t v1, rz_kPm hB f0', ra_kI, rz_t v2, if_neg v3, if_neg g2, rz_kBm hB f0', ra_kI, rz_f v5]
        · have g1 : ¬ (1 : Int32) < c := by rw [Int32.lt_iff_toInt_lt]; exact v4
          have g2 : c < (2 : Int32) := by rw [Int32.lt_iff_toInt_lt]; show c.toInt < 2; omega
          refine ⟨-2147483648, σ, ra_ui σ 86 2 0, ?_, ?_, rz_R_ft f0' h⟩
          · rw [e_125, rz_kPc hB f0, ra_kI, rz_t v1, rz_kPc hB f0, ra_kI, rz_t v2, if_neg v3, if_neg g1]
          · rw [e_241, rz_kPm hB f0', ra_kI, rz_t v1, rz_kPm hB f0', ra_kI, rz_t v2, if_neg v3, if_pos g2]
    · refine ⟨-2147483648, σ, ra_ui σ 86 2 0, ?_, ?_, rz_R_ft f0' h⟩
      · rw [e_125, rz_kPc hB f0, ra_kI, rz_t v1, rz_kPc hB f0, ra_kI, rz_f v2]
      · rw [e_241, rz_kPm hB f0', ra_kI, rz_t v1, rz_kPm hB f0', ra_kI, rz_f v2]
  · refine ⟨-2147483648, σ, ra_ui σ 86 2 0, ?_, ?_, rz_R_ft f0' h⟩
    · rw [e_125, rz_kPc hB f0, ra_kI, rz_f v1]
    · rw [e_241, rz_kPm hB f0', ra_kI, rz_f v1]
