-- ===== text: one more who is seen or heard =====
section RZK
/-- the rows with one more -/
theorem rz_Qk1_add {n n' np kd w pl s : Nat} {c0 : Int32} {a6 a7 a8 a9 m97 m98 m99 m100 b6 b7 b8 b9 r97 r98 r99 r100 : Nat → Int32} {Lk : List (Nat × Nat × Nat × Nat)} (hk : kd < 2) (hw : w < 1073741824) (hp1 : n ≤ pl) (hp2 : pl < n') (hs : s = (rz_sub Lk np kd).length) (hs4 : s < 4)
    (g2 : Lk.length ≤ 8 * np + (rz_sub Lk np 0).length + (rz_sub Lk np 1).length)
    (g3 : ∀ i x, Lk[i]? = some x → a6 i = nI x.1 ∧ a7 i = nI (13 + x.2.1) ∧ a8 i = nI x.2.2.1 ∧ a9 i = nI x.2.2.2 ∧ x.1 < np + 1 ∧ x.2.1 < 2 ∧ x.2.2.1 < 1073741824 ∧ x.2.2.2 < n)
    (g4 : Lk.Pairwise (fun x y => x.2.2.2 < y.2.2.2))
    (g5 : ∀ p, p < np + 1 → ((rz_sub Lk p 0).length ≤ 4 ∧ m99 p = nI (rz_sub Lk p 0).length) ∧ ((rz_sub Lk p 1).length ≤ 4 ∧ m100 p = nI (rz_sub Lk p 1).length) ∧ ∀ kd, kd < 2 → ∀ i x, (rz_sub Lk p kd)[i]? = some x → m97 (8 * p + 4 * kd + i) = nI x.2.2.1 ∧ m98 (8 * p + 4 * kd + i) = nI x.2.2.2)
    (c1 : c0 = nI (Lk.length + 1)) (e6 : ∀ i, b6 i = if i = Lk.length then nI np else a6 i) (e7 : ∀ i, b7 i = if i = Lk.length then nI (13 + kd) else a7 i) (e8 : ∀ i, b8 i = if i = Lk.length then nI w else a8 i) (e9 : ∀ i, b9 i = if i = Lk.length then nI pl else a9 i)
    (e97 : ∀ i, r97 i = if i = 8 * np + 4 * kd + s then nI w else m97 i) (e98 : ∀ i, r98 i = if i = 8 * np + 4 * kd + s then nI pl else m98 i)
    (e99 : ∀ p, r99 p = if p = np ∧ kd = 0 then nI (s + 1) else m99 p) (e100 : ∀ p, r100 p = if p = np ∧ kd = 1 then nI (s + 1) else m100 p) :
    rz_Qk1 n' np c0 b6 b7 b8 b9 r97 r98 r99 r100 := by
  have sub1 : ∀ p q, rz_sub (Lk ++ [(np, kd, w, pl)]) p q = rz_sub Lk p q ++ if np = p ∧ kd = q then [(np, kd, w, pl)] else [] := fun p q => by rw [rz_sub_app, rz_sub_one]
  have nnl : n ≤ n' := by omega
  refine ⟨Lk ++ [(np, kd, w, pl)], by rw [List.length_append, c1]; rfl, ?_, fun i x hx => ?_, ?_, fun p hp => ?_⟩
  · rw [List.length_append, sub1, sub1, List.length_append, List.length_append]
    rcases (show kd = 0 ∨ kd = 1 by omega) with rfl | rfl
    · rw [if_pos ⟨rfl, rfl⟩, if_neg (by omega)]; simp only [List.length_cons, List.length_nil]; omega
    · rw [if_neg (by omega), if_pos ⟨rfl, rfl⟩]; simp only [List.length_cons, List.length_nil]; omega
  · rw [e6, e7, e8, e9]
    by_cases y : i = Lk.length
    · rw [if_pos y, if_pos y, if_pos y, if_pos y]
      rw [y, List.getElem?_append_right (Nat.le_refl _), Nat.sub_self] at hx
      cases hx
      exact ⟨rfl, rfl, rfl, rfl, by omega, hk, hw, hp2⟩
    · rw [if_neg y, if_neg y, if_neg y, if_neg y]
      have il : i < Lk.length := by
        rcases Nat.lt_or_ge i Lk.length with q | q
        · exact q
        · rw [List.getElem?_eq_none (by rw [List.length_append]; simp only [List.length_cons, List.length_nil]; omega)] at hx
          cases hx
      rw [List.getElem?_append_left il] at hx
      obtain ⟨u1, u2, u3, u4, u5, u6, u7, u8⟩ := g3 i x hx
      exact ⟨u1, u2, u3, u4, u5, u6, u7, by omega⟩
  · rw [List.pairwise_append]
    refine ⟨g4, List.pairwise_singleton _ _, fun x hx y hy => ?_⟩
    rw [List.mem_singleton.mp hy]
    obtain ⟨i, hi⟩ := List.mem_iff_getElem?.mp hx
    have := (g3 i x hi).2.2.2.2.2.2.2
    show x.2.2.2 < pl
    omega
  · obtain ⟨⟨u1, u2⟩, ⟨u3, u4⟩, u5⟩ := g5 p hp
    rw [e99, e100, sub1, sub1]
    have rows : ∀ q, q < 2 → ∀ i x, (rz_sub (Lk ++ [(np, kd, w, pl)]) p q)[i]? = some x → r97 (8 * p + 4 * q + i) = nI x.2.2.1 ∧ r98 (8 * p + 4 * q + i) = nI x.2.2.2 := by
      intro q hq i x hx
      rw [sub1] at hx
      have lq : (rz_sub Lk p q).length ≤ 4 := by
        rcases (show q = 0 ∨ q = 1 by omega) with rfl | rfl
        · exact u1
        · exact u3
      by_cases y : np = p ∧ kd = q
      · obtain ⟨y1, y2⟩ := y
        subst y1 y2
        rw [if_pos ⟨rfl, rfl⟩] at hx
        rw [e97, e98]
        by_cases v : i = s
        · rw [if_pos (by omega), if_pos (by omega)]
          rw [v, hs, List.getElem?_append_right (Nat.le_refl _), Nat.sub_self] at hx
          cases hx
          exact ⟨rfl, rfl⟩
        · have il : i < (rz_sub Lk np kd).length := by
            rcases Nat.lt_or_ge i (rz_sub Lk np kd).length with q | q
            · exact q
            · rw [List.getElem?_eq_none (by rw [List.length_append]; simp only [List.length_cons, List.length_nil]; omega)] at hx
              cases hx
          rw [List.getElem?_append_left il] at hx
          rw [if_neg (by omega), if_neg (by omega)]
          exact u5 kd hq i x hx
      · rw [if_neg y, List.append_nil] at hx
        have il : i < (rz_sub Lk p q).length := by
          rcases Nat.lt_or_ge i (rz_sub Lk p q).length with v | v
          · exact v
          · rw [List.getElem?_eq_none v] at hx; cases hx
        rw [e97, e98, if_neg (by omega), if_neg (by omega)]
        exact u5 q hq i x hx
    refine ⟨?_, ?_, rows⟩
    · by_cases y : np = p ∧ kd = 0
      · obtain ⟨rfl, rfl⟩ := y
        rw [if_pos ⟨rfl, rfl⟩, if_pos ⟨rfl, rfl⟩, List.length_append, ← hs]
        exact ⟨by simp only [List.length_cons, List.length_nil]; omega, rfl⟩
      · rw [if_neg y, List.append_nil, if_neg (fun q => y ⟨q.1.symm, q.2⟩)]
        exact ⟨u1, u2⟩
    · by_cases y : np = p ∧ kd = 1
      · obtain ⟨rfl, rfl⟩ := y
        rw [if_pos ⟨rfl, rfl⟩, if_pos ⟨rfl, rfl⟩, List.length_append, ← hs]
        exact ⟨by simp only [List.length_cons, List.length_nil]; omega, rfl⟩
      · rw [if_neg y, List.append_nil, if_neg (fun q => y ⟨q.1.symm, q.2⟩)]
        exact ⟨u3, u4⟩
end RZK
