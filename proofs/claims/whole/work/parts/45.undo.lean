-- ===== take, seat, undo =====
def rz_ku1 (ku : Nat) : Nat := if ku = 20 then 20 else ku + 1
theorem rz_ku1_or {ku : Nat} (h : ku ≤ 20) : (ku = 20 ∧ rz_ku1 ku = 20) ∨ (ku < 20 ∧ rz_ku1 ku = ku + 1) := by
  unfold rz_ku1
  by_cases z : ku = 20
  · rw [if_pos z]; omega
  · rw [if_neg z]; omega
theorem rz_c_rem {σ : ra_S} {p ku tp : Nat} (hp : p < 8) (h3 : σ.1 48 3 = nI ku) (hk : ku ≤ 20) (h4 : σ.1 48 4 = nI tp) (ht : tp < 20) : ra_C 69 [.ref 48, .int (nI p)] σ = ra_V (ra_ui (ra_ui (ra_ui (ra_ui (ra_ui (ra_ui σ 52 tp (nI p)) 53 tp (σ.1 49 p)) 54 tp (σ.1 50 p)) 55 tp (σ.1 51 p)) 48 4 (nI ((tp + 1) % 20))) 48 3 (nI (rz_ku1 ku))) := by
  have mn : (if nI 20 < nI (ku + 1) then nI 20 else nI (ku + 1)) = nI (rz_ku1 ku) := by
    rcases rz_ku1_or hk with ⟨z, q⟩ | ⟨z, q⟩
    · rw [rz_il (by omega) (by omega), q]
    · rw [rz_inl (by omega) (by omega), q]
  rw [e_69, if_neg (nI_pos (by omega)), show (8 : Int32) = nI 8 from rfl, rz_il (by omega) hp, h4, if_neg (nI_pos (by omega)), show (20 : Int32) = nI 20 from rfl, rz_il (by omega) ht]
  repeat rw [rz_ig (by omega) (by omega)]
  rw [nI_clamp (by omega), nI_clamp (by omega), nI_1, pk_rem (by omega) (by omega) (by omega), h3, nI_1, rz_mid47, ra_kI, mn]
/-- the reference remembers -/
theorem rz_m_rem {σ : ra_S} {ku : Nat} (h : σ.1 86 43 = nI ku) (hk : ku ≤ 20) (a b c d : Int32) : ∃ τ : ra_S, ra_C 199 [.ref 86, .int a, .int b, .int c, .int d] σ = ra_V τ ∧ (∀ e, e ≠ 103 → e ≠ 86 → τ.1 e = σ.1 e) ∧ (∀ i, i ≠ 43 → τ.1 86 i = σ.1 86 i) ∧ τ.1 86 43 = nI (rz_ku1 ku) ∧ (∀ i, i < 4 * (rz_ku1 ku - 1) → τ.1 103 i = if ku = 20 then σ.1 103 (i + 4) else σ.1 103 i) ∧ τ.1 103 (4 * (rz_ku1 ku - 1)) = a ∧ τ.1 103 (4 * (rz_ku1 ku - 1) + 1) = b ∧ τ.1 103 (4 * (rz_ku1 ku - 1) + 2) = c ∧ τ.1 103 (4 * (rz_ku1 ku - 1) + 3) = d := by
  have fin : ∀ (m : Nat) (τ : ra_S) (o5 : Option Value), m < 20 → τ.1 86 43 = nI m → ra_D (ra_lay, none, 99999, ra_m199) 51 [some (.ref 86), some (.int a), some (.int b), some (.int c), some (.int d), o5] [] τ = ra_V (ra_ui (ra_ui (ra_ui (ra_ui (ra_ui τ 103 (4 * m) a) 103 (4 * m + 1) b) 103 (4 * m + 2) c) 103 (4 * m + 3) d) 86 43 (nI (m + 1))) := by
    intro m τ o5 hm h43
    rw [e_199_51, h43, show (4 : Int32) * nI m = nI (4 * m) from pk_mul 4 m, show nI (4 * m) + (1 : Int32) = nI (4 * m + 1) from nI_add _ 1, show nI (4 * m) + (2 : Int32) = nI (4 * m + 2) from nI_add _ 2, show nI (4 * m) + (3 : Int32) = nI (4 * m + 3) from nI_add _ 3, rz_ig (by omega) (by omega), rz_ig (by omega) (by omega), rz_ig (by omega) (by omega), rz_ig (by omega) (by omega), nI_clamp (by omega), nI_clamp (by omega), nI_clamp (by omega), nI_clamp (by omega), nI_1]
  have out : ∀ (m : Nat) (τ : ra_S), (∀ e, e ≠ 103 → e ≠ 86 → τ.1 e = σ.1 e) → (∀ i, i ≠ 43 → τ.1 86 i = σ.1 86 i) → m + 1 = rz_ku1 ku → (∀ i, i < 4 * m → τ.1 103 i = if ku = 20 then σ.1 103 (i + 4) else σ.1 103 i) → ∃ τ' : ra_S, ra_V (ra_ui (ra_ui (ra_ui (ra_ui (ra_ui τ 103 (4 * m) a) 103 (4 * m + 1) b) 103 (4 * m + 2) c) 103 (4 * m + 3) d) 86 43 (nI (m + 1))) = ra_V τ' ∧ (∀ e, e ≠ 103 → e ≠ 86 → τ'.1 e = σ.1 e) ∧ (∀ i, i ≠ 43 → τ'.1 86 i = σ.1 86 i) ∧ τ'.1 86 43 = nI (rz_ku1 ku) ∧ (∀ i, i < 4 * (rz_ku1 ku - 1) → τ'.1 103 i = if ku = 20 then σ.1 103 (i + 4) else σ.1 103 i) ∧ τ'.1 103 (4 * (rz_ku1 ku - 1)) = a ∧ τ'.1 103 (4 * (rz_ku1 ku - 1) + 1) = b ∧ τ'.1 103 (4 * (rz_ku1 ku - 1) + 2) = c ∧ τ'.1 103 (4 * (rz_ku1 ku - 1) + 3) = d := by
    intro m τ t1 t2 hm t3
    rw [← hm, show m + 1 - 1 = m by omega]
    refine ⟨_, rfl, fun e e1 e2 => ?_, fun i hi => ?_, ?_, fun i hi => ?_, ?_, ?_, ?_, ?_⟩
    · rw [ra_ui_1 e e2, ra_ui_1 e e1, ra_ui_1 e e1, ra_ui_1 e e1, ra_ui_1 e e1]; exact t1 e e1 e2
    · rw [ra_ui_get, if_neg (fun x => hi x.2), ra_ui_1 86 (by decide), ra_ui_1 86 (by decide), ra_ui_1 86 (by decide), ra_ui_1 86 (by decide)]; exact t2 i hi
    · rw [ra_ui_get, if_pos ⟨rfl, rfl⟩]
    · simp only [ra_ui_get, Nat.reduceEqDiff, false_and, if_false, true_and]
      rw [if_neg (by omega), if_neg (by omega), if_neg (by omega), if_neg (by omega)]; exact t3 i hi
    · simp only [ra_ui_get, Nat.reduceEqDiff, false_and, if_false, true_and]
      rw [if_neg (by omega), if_neg (by omega), if_neg (by omega), if_pos trivial]
    · simp only [ra_ui_get, Nat.reduceEqDiff, false_and, if_false, true_and]
      rw [if_neg (by omega), if_neg (by omega), if_pos trivial]
    · simp only [ra_ui_get, Nat.reduceEqDiff, false_and, if_false, true_and]
      rw [if_neg (by omega), if_pos trivial]
    · simp only [ra_ui_get, Nat.reduceEqDiff, false_and, if_false, true_and]
      rw [if_pos trivial]
  have kk := rz_ku1_or hk
  rw [e_199, h]
  by_cases z : ku = 20
  · subst z
    rw [if_pos (show nI 20 = (20 : Int32) from rfl)]
    have shift : ∀ m k, k + m = 76 → ∀ τ : ra_S, (∀ e, e ≠ 103 → τ.1 e = σ.1 e) → (∀ i, i < k → τ.1 103 i = σ.1 103 (i + 4)) → (∀ i, k ≤ i → τ.1 103 i = σ.1 103 i) → ∃ τ' : ra_S, ra_D (ra_lay, none, 99999, ra_m199) 12 [some (.ref 86), some (.int a), some (.int b), some (.int c), some (.int d), some (.int (nI k))] [] τ = ra_D (ra_lay, none, 99999, ra_m199) 51 [some (.ref 86), some (.int a), some (.int b), some (.int c), some (.int d), some (.int (nI 76))] [] (ra_ui τ' 86 43 (nI 19)) ∧ (∀ e, e ≠ 103 → τ'.1 e = σ.1 e) ∧ (∀ i, i < 76 → τ'.1 103 i = σ.1 103 (i + 4)) := by
      intro m
      induction m with
      | zero =>
        intro k hk τ t1 t2 t3
        have : k = 76 := by omega
        subst this
        rw [e_199_12, if_neg (by decide), t1 86 (by decide), h, show nI 20 - (1 : Int32) = nI 19 from rfl]
        exact ⟨τ, rfl, t1, t2⟩
      | succ m ih =>
        intro k hk τ t1 t2 t3
        rw [e_199_12, show (76 : Int32) = nI 76 from rfl, rz_il (by omega) (by omega), show nI k + (4 : Int32) = nI (k + 4) from nI_add k 4, rz_ig (by omega) (by omega), rz_ig (by omega) (by omega), nI_clamp (by omega), nI_clamp (by omega), nI_1]
        refine ih (k + 1) (by omega) (ra_ui τ 103 k (τ.1 103 (k + 4))) (fun e he => by rw [ra_ui_1 e he]; exact t1 e he) (fun i hi => ?_) (fun i hi => ?_)
        · rw [ra_ui_get]
          by_cases y : i = k
          · rw [if_pos ⟨rfl, y⟩, y, t3 _ (by omega)]
          · rw [if_neg (fun x => y x.2)]; exact t2 i (by omega)
        · rw [ra_ui_get, if_neg (fun x => by omega)]; exact t3 i (by omega)
    obtain ⟨τ', e1, t1, t2⟩ := shift 76 0 (by omega) σ (fun _ _ => rfl) (fun i hi => by omega) (fun _ _ => rfl)
    rw [show (0 : Int32) = nI 0 from rfl, e1, fin 19 _ _ (by omega) (by rw [ra_ui_get, if_pos ⟨rfl, rfl⟩])]
    exact out 19 _ (fun e e1 e2 => by rw [ra_ui_1 e e2]; exact t1 e e1) (fun i hi => by rw [ra_ui_get, if_neg (fun x => hi x.2), t1 86 (by decide)]) (by omega) (fun i hi => by rw [ra_ui_1 103 (by decide), if_pos rfl]; exact t2 i (by omega))
  · rw [if_neg (show ¬ nI ku = (20 : Int32) from fun y => z ((nI_eq (a := ku) (b := 20) (by omega) (by omega)).mp y)), fin ku σ none (by omega) h]
    exact out ku σ (fun _ _ _ => rfl) (fun _ _ => rfl) (by omega) (fun i hi => by rw [if_neg z])
/-- one more change to undo -/
theorem rz_undo_more {np ku tp : Nat} {σ τ : ra_S} (h : rz_undo np ku tp σ) (hs : rz_stage np σ) {p : Nat} (hp : p < np) (h3 : τ.1 48 3 = nI (rz_ku1 ku)) (h43 : τ.1 86 43 = nI (rz_ku1 ku)) (h4 : τ.1 48 4 = nI ((tp + 1) % 20))
    (r52 : ∀ i, τ.1 52 i = if i = tp then nI p else σ.1 52 i) (r53 : ∀ i, τ.1 53 i = if i = tp then σ.1 49 p else σ.1 53 i) (r54 : ∀ i, τ.1 54 i = if i = tp then σ.1 50 p else σ.1 54 i) (r55 : ∀ i, τ.1 55 i = if i = tp then σ.1 51 p else σ.1 55 i)
    (u0 : ∀ i, i < 4 * (rz_ku1 ku - 1) → τ.1 103 i = if ku = 20 then σ.1 103 (i + 4) else σ.1 103 i) (u1 : τ.1 103 (4 * (rz_ku1 ku - 1)) = nI p)
    (st : ∀ q, q < np → q ≠ p → τ.1 49 q = σ.1 49 q ∧ τ.1 50 q = σ.1 50 q ∧ τ.1 51 q = σ.1 51 q)
    (srt : (τ.1 103 (4 * (rz_ku1 ku - 1) + 1) = 0 ∧ τ.1 103 (4 * (rz_ku1 ku - 1) + 2) = σ.1 51 p ∧ τ.1 49 p = σ.1 49 p ∧ τ.1 50 p = σ.1 50 p) ∨ (τ.1 103 (4 * (rz_ku1 ku - 1) + 1) = 1 ∧ τ.1 103 (4 * (rz_ku1 ku - 1) + 2) = σ.1 49 p ∧ τ.1 103 (4 * (rz_ku1 ku - 1) + 3) = σ.1 50 p ∧ τ.1 51 p = σ.1 51 p)) : rz_undo np (rz_ku1 ku) ((tp + 1) % 20) τ := by
  obtain ⟨k1, k2, k3, k4, k5, U, U0, US⟩ := h
  have kk := rz_ku1_or k3
  obtain ⟨V, V0, VS⟩ : ∃ V : Nat → Nat → Int32 × Int32 × Int32, (∀ q, V 0 q = (τ.1 49 q, τ.1 50 q, τ.1 51 q)) ∧ ∀ j q, V (j + 1) q = U j q := ⟨fun j q => if j = 0 then (τ.1 49 q, τ.1 50 q, τ.1 51 q) else U (j - 1) q, fun q => if_pos rfl, fun j q => by show (if j + 1 = 0 then _ else U (j + 1 - 1) q) = _; rw [if_neg (by omega), Nat.add_sub_cancel]⟩
  refine ⟨h3, h43, by omega, h4, Nat.mod_lt _ (by omega), V, fun q hq => V0 q, fun j hj => ?_⟩
  by_cases z : j = 0
  · subst z
    have ix : ((tp + 1) % 20 + 19 - 0) % 20 = tp := by omega
    obtain ⟨⟨s1, s2⟩, ⟨s3, s4⟩, s5, s6⟩ := hs p hp
    rw [ix, Nat.sub_zero]
    refine ⟨p, hp, by rw [r52, if_pos rfl], u1, by rw [r53, if_pos rfl, s1]; exact s2, by rw [r54, if_pos rfl, s3]; exact s4, by rw [r55, if_pos rfl, s5]; exact s6, fun q hq => ?_, ?_⟩
    · rw [VS, V0, U0 q hq, r53, r54, r55, if_pos rfl, if_pos rfl, if_pos rfl]
      by_cases y : q = p
      · rw [if_pos y, y]
      · rw [if_neg y]
        obtain ⟨a1, a2, a3⟩ := st q hq y
        rw [a1, a2, a3]
    · rw [V0, r53, r54, r55, if_pos rfl, if_pos rfl, if_pos rfl]
      rcases srt with ⟨a1, a2, a3, a4⟩ | ⟨a1, a2, a3, a4⟩
      · exact Or.inl ⟨a1, a2, a3, a4⟩
      · exact Or.inr ⟨a1, a2, a3, a4⟩
  · obtain ⟨i, rfl⟩ : ∃ i, j = i + 1 := ⟨j - 1, by omega⟩
    obtain ⟨q, hq, b1, b2, b3, b4, b5, b6, b7⟩ := US i (by omega)
    have ix : ((tp + 1) % 20 + 19 - (i + 1)) % 20 = (tp + 19 - i) % 20 := by omega
    have nt : (tp + 19 - i) % 20 ≠ tp := by omega
    have rf : ∀ n, n < 4 → τ.1 103 (4 * (rz_ku1 ku - 1 - (i + 1)) + n) = σ.1 103 (4 * (ku - 1 - i) + n) := fun n hn => by
      rw [u0 _ (by omega)]
      rcases kk with ⟨y, y2⟩ | ⟨y, y2⟩
      · rw [if_pos y, show 4 * (rz_ku1 ku - 1 - (i + 1)) + n + 4 = 4 * (ku - 1 - i) + n by omega]
      · rw [if_neg (by omega), show 4 * (rz_ku1 ku - 1 - (i + 1)) + n = 4 * (ku - 1 - i) + n by omega]
    have rf0 := rf 0 (by omega)
    rw [Nat.add_zero, Nat.add_zero] at rf0
    rw [ix, r52, r53, r54, r55, if_neg nt, if_neg nt, if_neg nt, if_neg nt, rf0, rf 1 (by omega), rf 2 (by omega), rf 3 (by omega)]
    refine ⟨q, hq, b1, b2, b3, b4, b5, fun q' hq' => ?_, ?_⟩
    · rw [VS, VS]; exact b6 q' hq'
    · rw [VS]; exact b7
theorem rz_take {σ : ra_S} (h : rz_R σ) (a b : Int32) : rz_OI 93 200 [.int a, .int b] σ := by
  obtain ⟨np, nb, nl, nw, ku, tp, nn, tc, hc, -, hpl, -, -, hs, hu, -⟩ := id h
  obtain ⟨⟨c1, c2, c3⟩, -⟩ := id hc
  obtain ⟨k1, k2, k3, k4, k5, -⟩ := id hu
  have m14 : (ra_ui σ 86 2 0).1 86 14 = nI np := c2
  by_cases v1 : 0 ≤ a.toInt ∧ a.toInt < np
  · by_cases v2 : 0 ≤ b.toInt ∧ b.toInt ≤ 15
    · obtain ⟨p, hp, rfl⟩ := rz_nat (by omega) v1
      generalize hτ : ra_ui (ra_ui (ra_ui (ra_ui (ra_ui (ra_ui (ra_ui σ 52 tp (nI p)) 53 tp (σ.1 49 p)) 54 tp (σ.1 50 p)) 55 tp (σ.1 51 p)) 48 4 (nI ((tp + 1) % 20))) 48 3 (nI (rz_ku1 ku))) 51 p b = τ1
      have e1 : ra_C 93 [.ref 0, .int (nI p), .int b] σ = ra_I 1 τ1 := by
        rw [e_93, ra_c_isPlayer c1 c3, ra_kI, rz_t v1, rz_c_in _ _ 0 15 rfl rfl, ra_kI, rz_t v2, rz_c_rem (by omega) k1 k3 k4 k5, ra_kV, rz_ig (by omega) (by omega), nI_clamp (by omega), hτ]
      have fr : ∀ c, ¬ (c = 48 ∨ (51 ≤ c ∧ c ≤ 55)) → τ1.1 c = σ.1 c := fun c hcn => by
        rw [← hτ, ra_ui_1 c (by omega), ra_ui_1 c (by omega), ra_ui_1 c (by omega), ra_ui_1 c (by omega), ra_ui_1 c (by omega), ra_ui_1 c (by omega), ra_ui_1 c (by omega)]
      obtain ⟨τ2, e2, g1, g2, g3, g4, g5, g6, g7, g8⟩ := rz_m_rem (σ := ra_ui τ1 86 2 0) (ku := ku) (by rw [ra_ui_get, if_neg (by decide), fr 86 (by omega)]; exact k2) k3 (nI p) 0 ((ra_ui τ1 86 2 0).1 101 p) 0
      have s101 : (ra_ui τ1 86 2 0).1 101 p = σ.1 101 p := by rw [ra_ui_1 101 (by decide), fr 101 (by omega)]
      refine ⟨1, τ1, ra_ui τ2 101 p b, e1, ?_, ?_⟩
      · rw [e_200, ra_m_isPlayer (σ := ra_ui τ1 86 2 0) (by rw [ra_ui_get, if_neg (by decide), fr 86 (by omega)]; exact c2) c3, ra_kI, rz_t v1, rz_m_in _ _ 0 15 rfl rfl, ra_kI, rz_t v2, rz_ig (by omega) (by omega), nI_clamp (by omega), e2, ra_kV, rz_ig (by omega) (by omega)]
      · have fr2 : ∀ c, ¬ (c = 48 ∨ (51 ≤ c ∧ c ≤ 55) ∨ c = 86 ∨ c = 101 ∨ c = 103) → (ra_ui τ2 101 p b).1 c = σ.1 c := fun c hcn => by
          rw [ra_ui_1 c (by omega), g1 c (by omega) (by omega), ra_ui_1 c (by omega), fr c (by omega)]
        have t2 : ∀ c, c ≠ 86 → c ≠ 101 → c ≠ 103 → (ra_ui τ2 101 p b).1 c = τ1.1 c := fun c c1 c2 c3 => by rw [ra_ui_1 c c2, g1 c c3 c1, ra_ui_1 c c1]
        refine rz_R_stage (σ := σ) (fun c k hP hS => ?_) (fun np' nb' nl' nw' ku' tp' hc' hp' hs' hu' => ?_) h
        · by_cases y : c = 86
          · subst y
            have d2 : k ≠ 2 := by rintro rfl; cases hP
            have d43 : k ≠ 43 := by rintro rfl; cases hS
            rw [ra_ui_1 86 (by decide), g2 k d43, ra_ui_get, if_neg (fun x => d2 x.2), fr 86 (by omega)]
          · by_cases w : c = 48
            · subst w
              have d3 : k ≠ 3 := by rintro rfl; cases hS
              have d4 : k ≠ 4 := by rintro rfl; cases hS
              rw [t2 48 (by decide) (by decide) (by decide), ← hτ]
              simp only [ra_ui_get, Nat.reduceEqDiff, false_and, if_false, true_and, d3, d4]
            · have d : ¬ (51 ≤ c ∧ c ≤ 55) := fun x => by
                rcases (show c = 51 ∨ c = 52 ∨ c = 53 ∨ c = 54 ∨ c = 55 by omega) with rfl | rfl | rfl | rfl | rfl <;> cases hS
              have d1 : c ≠ 101 := by rintro rfl; cases hS
              have d2 : c ≠ 103 := by rintro rfl; cases hS
              rw [fr2 c (by omega)]
        · obtain ⟨ep, -, -, -⟩ := rz_np_uniq hc hc'
          subst ep
          refine ⟨rz_ku1 ku, (tp + 1) % 20, ?_, ?_, ?_⟩
          · unfold rz_players at hp' ⊢
            rw [fr2 17 (by omega), fr2 18 (by omega), fr2 21 (by omega), fr2 22 (by omega), fr2 23 (by omega), fr2 24 (by omega), fr2 92 (by omega), fr2 93 (by omega), fr2 94 (by omega), fr2 95 (by omega)]
            exact hp'
          · intro q hq
            obtain ⟨a1, a2, a3, a4⟩ := hs' q hq
            rw [fr2 49 (by omega), fr2 50 (by omega), fr2 93 (by omega)]
            refine ⟨a1, a2, ?_⟩
            have a51 : (ra_ui τ2 101 p b).1 51 q = if q = p then b else σ.1 51 q := by
              rw [t2 51 (by decide) (by decide) (by decide), ← hτ]
              simp only [ra_ui_get, Nat.reduceEqDiff, false_and, if_false, true_and]
            have a101 : (ra_ui τ2 101 p b).1 101 q = if q = p then b else σ.1 101 q := by
              rw [ra_ui_get, g1 101 (by decide) (by decide), ra_ui_1 101 (by decide), fr 101 (by omega)]
              simp only [true_and]
            rw [a51, a101]
            by_cases y : q = p
            · rw [if_pos y, if_pos y]; exact ⟨rfl, v2⟩
            · rw [if_neg y, if_neg y]; exact ⟨a3, a4⟩
          · refine rz_undo_more hu hs hp ?_ ?_ ?_ (fun i => ?_) (fun i => ?_) (fun i => ?_) (fun i => ?_) (fun i hi => ?_) ?_ (fun q hq hne => ?_) (Or.inl ⟨?_, ?_, ?_, ?_⟩)
            · rw [t2 48 (by decide) (by decide) (by decide), ← hτ]; simp only [ra_ui_get, Nat.reduceEqDiff, false_and, if_false, and_self, if_true]
            · rw [ra_ui_1 86 (by decide)]; exact g3
            · rw [t2 48 (by decide) (by decide) (by decide), ← hτ]; simp only [ra_ui_get, Nat.reduceEqDiff, false_and, and_false, if_false, and_self, if_true]
            · rw [t2 52 (by decide) (by decide) (by decide), ← hτ]; simp only [ra_ui_get, Nat.reduceEqDiff, false_and, if_false, true_and]
            · rw [t2 53 (by decide) (by decide) (by decide), ← hτ]; simp only [ra_ui_get, Nat.reduceEqDiff, false_and, if_false, true_and]
            · rw [t2 54 (by decide) (by decide) (by decide), ← hτ]; simp only [ra_ui_get, Nat.reduceEqDiff, false_and, if_false, true_and]
            · rw [t2 55 (by decide) (by decide) (by decide), ← hτ]; simp only [ra_ui_get, Nat.reduceEqDiff, false_and, if_false, true_and]
            · rw [ra_ui_1 103 (by decide), g4 i hi, ra_ui_1 103 (by decide), fr 103 (by omega)]
            · rw [ra_ui_1 103 (by decide)]; exact g5
            · rw [fr2 49 (by omega), fr2 50 (by omega), t2 51 (by decide) (by decide) (by decide), ← hτ, ra_ui_get, if_neg (fun x => hne x.2)]
              exact ⟨rfl, rfl, rfl⟩
            · rw [ra_ui_1 103 (by decide)]; exact g6
            · rw [ra_ui_1 103 (by decide), g7, s101, (hs p hp).2.2.1]
            · rw [fr2 49 (by omega)]
            · rw [fr2 50 (by omega)]
    · refine ⟨0, σ, ra_ui σ 86 2 0, ?_, ?_, rz_R_ui rfl h⟩
      · rw [e_93, ra_c_isPlayer c1 c3, ra_kI, rz_t v1, rz_c_in _ _ 0 15 rfl rfl, ra_kI, rz_f v2]
      · rw [e_200, ra_m_isPlayer m14 c3, ra_kI, rz_t v1, rz_m_in _ _ 0 15 rfl rfl, ra_kI, rz_f v2]
  · refine ⟨0, σ, ra_ui σ 86 2 0, ?_, ?_, rz_R_ui rfl h⟩
    · rw [e_93, ra_c_isPlayer c1 c3, ra_kI, rz_f v1]
    · rw [e_200, ra_m_isPlayer m14 c3, ra_kI, rz_f v1]
