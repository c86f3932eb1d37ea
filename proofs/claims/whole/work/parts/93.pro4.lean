-- ===== the few cells that are there in a constructor: equations and runs (by gen93.py, out of parts 12, 54, 78) =====
def rp_lay2 (i : Nat) : Option ra_H := bif Nat.ble 2 i && Nat.ble i 4 then ra_lay i else none
def rp_lay86 (i : Nat) : Option ra_H := bif Nat.ble 86 i && Nat.ble i 114 then ra_lay i else none
theorem rp_lay2_in : ∀ i h, rp_lay2 i = some h → ra_lay i = some h := by
  intro i h e
  unfold rp_lay2 at e
  cases hb : (Nat.ble 2 i && Nat.ble i 4) with
  | true => rw [hb] at e; exact e
  | false => rw [hb] at e; cases e
theorem rp_lay86_in : ∀ i h, rp_lay86 i = some h → ra_lay i = some h := by
  intro i h e
  unfold rp_lay86 at e
  cases hb : (Nat.ble 86 i && Nat.ble i 114) with
  | true => rw [hb] at e; exact e
  | false => rw [hb] at e; cases e
set_option maxRecDepth 100000 in
theorem p_75 (σ : ra_S) : ra_Cz rp_lay2 75 [.ref 2] σ = ra_D (rp_lay2, none, 99999, ra_m75) 2 [some (.ref 2), some (.int (0 : Int32))] [] σ := (ra_micC 2 (fun f => f (rp_lay2, none, 99999, ra_m75) 2 [some (.ref 2), some (.int (0 : Int32))] [] σ) (fun f => rfl) (ra_Lm.r0 _ _ _ _ _) : ra_Cz rp_lay2 75 [.ref 2] σ = ra_D (rp_lay2, none, 99999, ra_m75) 2 [some (.ref 2), some (.int (0 : Int32))] [] σ)
set_option maxRecDepth 100000 in
theorem p_75_2 (v1 : Int32) (σ : ra_S) : ra_D (rp_lay2, none, 99999, ra_m75) 2 [some (.ref 2), some (.int v1)] [] σ = (if (σ.1 2 4) < (σ.1 2 3) then (if 0 ≤ ((σ.1 2 4)).toInt ∧ ((σ.1 2 4)).toInt < 800 then (if (σ.1 3 ((σ.1 2 4)).toNatClampNeg) < (97 : Int32) then some (.inl (some (.int v1)), σ) else (if 0 ≤ ((σ.1 2 4)).toInt ∧ ((σ.1 2 4)).toInt < 800 then (if (122 : Int32) < (σ.1 3 ((σ.1 2 4)).toNatClampNeg) then some (.inl (some (.int v1)), σ) else (if v1 < (6 : Int32) then (if 0 ≤ ((σ.1 2 4)).toInt ∧ ((σ.1 2 4)).toInt < 800 then ra_D (rp_lay2, none, 99999, ra_m75) 76 [some (.ref 2), some (.int v1)] [] (ra_ui σ 2 7 ((σ.1 2 7) ||| ((((σ.1 3 ((σ.1 2 4)).toNatClampNeg) - (97 : Int32)) + (1 : Int32)) <<< (((5 : Int32) * ((5 : Int32) - v1)) &&& 31)))) else none) else ra_D (rp_lay2, none, 99999, ra_m75) 76 [some (.ref 2), some (.int v1)] [] σ)) else none)) else none) else some (.inl (some (.int v1)), σ)) := ((ra_mic 5 (fun f => (if (σ.1 2 4) < (σ.1 2 3) then f (rp_lay2, none, 99999, ra_m75) 13 [some (.ref 2), some (.int v1)] [] σ else f (rp_lay2, none, 99999, ra_m75) 92 [some (.ref 2), some (.int v1)] [] σ)) (fun f => rfl) (ra_Lm.ite (ra_Lm.r0 _ _ _ _ _) (ra_Lm.r0 _ _ _ _ _)) : ra_D (rp_lay2, none, 99999, ra_m75) 2 [some (.ref 2), some (.int v1)] [] σ = (if (σ.1 2 4) < (σ.1 2 3) then ra_D (rp_lay2, none, 99999, ra_m75) 13 [some (.ref 2), some (.int v1)] [] σ else ra_D (rp_lay2, none, 99999, ra_m75) 92 [some (.ref 2), some (.int v1)] [] σ)).trans (ra_ite ((ra_mic 5 (fun f => (if 0 ≤ ((σ.1 2 4)).toInt ∧ ((σ.1 2 4)).toInt < 800 then f (rp_lay2, none, 99999, ra_m75) 22 [some (.ref 2), some (.int v1)] [.int (σ.1 3 ((σ.1 2 4)).toNatClampNeg)] σ else none)) (fun f => rfl) (ra_Lm.ite (ra_Lm.r0 _ _ _ _ _) (ra_Lm.const _)) : ra_D (rp_lay2, none, 99999, ra_m75) 13 [some (.ref 2), some (.int v1)] [] σ = (if 0 ≤ ((σ.1 2 4)).toInt ∧ ((σ.1 2 4)).toInt < 800 then ra_D (rp_lay2, none, 99999, ra_m75) 22 [some (.ref 2), some (.int v1)] [.int (σ.1 3 ((σ.1 2 4)).toNatClampNeg)] σ else none)).trans (ra_ite ((ra_mic 2 (fun f => (if (σ.1 3 ((σ.1 2 4)).toNatClampNeg) < (97 : Int32) then f (rp_lay2, none, 99999, ra_m75) 92 [some (.ref 2), some (.int v1)] [] σ else f (rp_lay2, none, 99999, ra_m75) 27 [some (.ref 2), some (.int v1)] [] σ)) (fun f => rfl) (ra_Lm.ite (ra_Lm.r0 _ _ _ _ _) (ra_Lm.r0 _ _ _ _ _)) : ra_D (rp_lay2, none, 99999, ra_m75) 22 [some (.ref 2), some (.int v1)] [.int (σ.1 3 ((σ.1 2 4)).toNatClampNeg)] σ = (if (σ.1 3 ((σ.1 2 4)).toNatClampNeg) < (97 : Int32) then ra_D (rp_lay2, none, 99999, ra_m75) 92 [some (.ref 2), some (.int v1)] [] σ else ra_D (rp_lay2, none, 99999, ra_m75) 27 [some (.ref 2), some (.int v1)] [] σ)).trans (ra_ite (ra_mic 2 (fun f => some (.inl (some (.int v1)), σ)) (fun f => rfl) (ra_Lm.const _) : ra_D (rp_lay2, none, 99999, ra_m75) 92 [some (.ref 2), some (.int v1)] [] σ = some (.inl (some (.int v1)), σ)) ((ra_mic 5 (fun f => (if 0 ≤ ((σ.1 2 4)).toInt ∧ ((σ.1 2 4)).toInt < 800 then f (rp_lay2, none, 99999, ra_m75) 36 [some (.ref 2), some (.int v1)] [.int (σ.1 3 ((σ.1 2 4)).toNatClampNeg)] σ else none)) (fun f => rfl) (ra_Lm.ite (ra_Lm.r0 _ _ _ _ _) (ra_Lm.const _)) : ra_D (rp_lay2, none, 99999, ra_m75) 27 [some (.ref 2), some (.int v1)] [] σ = (if 0 ≤ ((σ.1 2 4)).toInt ∧ ((σ.1 2 4)).toInt < 800 then ra_D (rp_lay2, none, 99999, ra_m75) 36 [some (.ref 2), some (.int v1)] [.int (σ.1 3 ((σ.1 2 4)).toNatClampNeg)] σ else none)).trans (ra_ite ((ra_mic 2 (fun f => (if (122 : Int32) < (σ.1 3 ((σ.1 2 4)).toNatClampNeg) then f (rp_lay2, none, 99999, ra_m75) 92 [some (.ref 2), some (.int v1)] [] σ else f (rp_lay2, none, 99999, ra_m75) 41 [some (.ref 2), some (.int v1)] [] σ)) (fun f => rfl) (ra_Lm.ite (ra_Lm.r0 _ _ _ _ _) (ra_Lm.r0 _ _ _ _ _)) : ra_D (rp_lay2, none, 99999, ra_m75) 36 [some (.ref 2), some (.int v1)] [.int (σ.1 3 ((σ.1 2 4)).toNatClampNeg)] σ = (if (122 : Int32) < (σ.1 3 ((σ.1 2 4)).toNatClampNeg) then ra_D (rp_lay2, none, 99999, ra_m75) 92 [some (.ref 2), some (.int v1)] [] σ else ra_D (rp_lay2, none, 99999, ra_m75) 41 [some (.ref 2), some (.int v1)] [] σ)).trans (ra_ite (ra_mic 2 (fun f => some (.inl (some (.int v1)), σ)) (fun f => rfl) (ra_Lm.const _) : ra_D (rp_lay2, none, 99999, ra_m75) 92 [some (.ref 2), some (.int v1)] [] σ = some (.inl (some (.int v1)), σ)) ((ra_mic 3 (fun f => (if v1 < (6 : Int32) then f (rp_lay2, none, 99999, ra_m75) 47 [some (.ref 2), some (.int v1)] [] σ else f (rp_lay2, none, 99999, ra_m75) 76 [some (.ref 2), some (.int v1)] [] σ)) (fun f => rfl) (ra_Lm.ite (ra_Lm.r0 _ _ _ _ _) (ra_Lm.r0 _ _ _ _ _)) : ra_D (rp_lay2, none, 99999, ra_m75) 41 [some (.ref 2), some (.int v1)] [] σ = (if v1 < (6 : Int32) then ra_D (rp_lay2, none, 99999, ra_m75) 47 [some (.ref 2), some (.int v1)] [] σ else ra_D (rp_lay2, none, 99999, ra_m75) 76 [some (.ref 2), some (.int v1)] [] σ)).trans (ra_ite ((ra_mic 8 (fun f => (if 0 ≤ ((σ.1 2 4)).toInt ∧ ((σ.1 2 4)).toInt < 800 then f (rp_lay2, none, 99999, ra_m75) 61 [some (.ref 2), some (.int v1)] [.int (σ.1 3 ((σ.1 2 4)).toNatClampNeg), .int (σ.1 2 7), .ref 2] σ else none)) (fun f => rfl) (ra_Lm.ite (ra_Lm.r0 _ _ _ _ _) (ra_Lm.const _)) : ra_D (rp_lay2, none, 99999, ra_m75) 47 [some (.ref 2), some (.int v1)] [] σ = (if 0 ≤ ((σ.1 2 4)).toInt ∧ ((σ.1 2 4)).toInt < 800 then ra_D (rp_lay2, none, 99999, ra_m75) 61 [some (.ref 2), some (.int v1)] [.int (σ.1 3 ((σ.1 2 4)).toNatClampNeg), .int (σ.1 2 7), .ref 2] σ else none)).trans (ra_ite (ra_mic 12 (fun f => f (rp_lay2, none, 99999, ra_m75) 76 [some (.ref 2), some (.int v1)] [] (ra_ui σ 2 7 ((σ.1 2 7) ||| ((((σ.1 3 ((σ.1 2 4)).toNatClampNeg) - (97 : Int32)) + (1 : Int32)) <<< (((5 : Int32) * ((5 : Int32) - v1)) &&& 31))))) (fun f => rfl) (ra_Lm.r0 _ _ _ _ _) : ra_D (rp_lay2, none, 99999, ra_m75) 61 [some (.ref 2), some (.int v1)] [.int (σ.1 3 ((σ.1 2 4)).toNatClampNeg), .int (σ.1 2 7), .ref 2] σ = ra_D (rp_lay2, none, 99999, ra_m75) 76 [some (.ref 2), some (.int v1)] [] (ra_ui σ 2 7 ((σ.1 2 7) ||| ((((σ.1 3 ((σ.1 2 4)).toNatClampNeg) - (97 : Int32)) + (1 : Int32)) <<< (((5 : Int32) * ((5 : Int32) - v1)) &&& 31))))) rfl)) rfl)))) rfl)))) rfl)) (ra_mic 2 (fun f => some (.inl (some (.int v1)), σ)) (fun f => rfl) (ra_Lm.const _) : ra_D (rp_lay2, none, 99999, ra_m75) 92 [some (.ref 2), some (.int v1)] [] σ = some (.inl (some (.int v1)), σ))))
set_option maxRecDepth 100000 in
theorem p_75_76 (v1 : Int32) (σ : ra_S) : ra_D (rp_lay2, none, 99999, ra_m75) 76 [some (.ref 2), some (.int v1)] [] σ = ra_D (rp_lay2, none, 99999, ra_m75) 2 [some (.ref 2), some (.int (v1 + (1 : Int32)))] [] (ra_ui σ 2 4 ((σ.1 2 4) + (1 : Int32))) := (ra_mic 8 (fun f => f (rp_lay2, none, 99999, ra_m75) 2 [some (.ref 2), some (.int (v1 + (1 : Int32)))] [] (ra_ui σ 2 4 ((σ.1 2 4) + (1 : Int32)))) (fun f => rfl) (ra_Lm.r0 _ _ _ _ _) : ra_D (rp_lay2, none, 99999, ra_m75) 76 [some (.ref 2), some (.int v1)] [] σ = ra_D (rp_lay2, none, 99999, ra_m75) 2 [some (.ref 2), some (.int (v1 + (1 : Int32)))] [] (ra_ui σ 2 4 ((σ.1 2 4) + (1 : Int32))))
set_option maxRecDepth 100000 in
theorem p_155 (σ : ra_S) : ra_Cz rp_lay86 155 [.ref 86] σ = some (.inl (none), (ra_ui (ra_ui (ra_ui (ra_ui (ra_ui (ra_ui (ra_ui σ 86 18 (0 : Int32)) 86 19 (0 : Int32)) 86 20 (0 : Int32)) 86 21 (0 : Int32)) 86 22 (15 : Int32)) 86 23 (0 : Int32)) 86 24 (0 : Int32))) := (ra_micC 22 (fun f => some (.inl (none), (ra_ui (ra_ui (ra_ui (ra_ui (ra_ui (ra_ui (ra_ui σ 86 18 (0 : Int32)) 86 19 (0 : Int32)) 86 20 (0 : Int32)) 86 21 (0 : Int32)) 86 22 (15 : Int32)) 86 23 (0 : Int32)) 86 24 (0 : Int32)))) (fun f => rfl) (ra_Lm.const _) : ra_Cz rp_lay86 155 [.ref 86] σ = some (.inl (none), (ra_ui (ra_ui (ra_ui (ra_ui (ra_ui (ra_ui (ra_ui σ 86 18 (0 : Int32)) 86 19 (0 : Int32)) 86 20 (0 : Int32)) 86 21 (0 : Int32)) 86 22 (15 : Int32)) 86 23 (0 : Int32)) 86 24 (0 : Int32))))
set_option maxRecDepth 100000 in
theorem p_156 (a1 : Int32) (σ : ra_S) : ra_Cz rp_lay86 156 [.ref 89, .int a1] σ = ra_D (rp_lay86, none, 99999, ra_m156) 2 [some (.ref 89), some (.int a1), some (.int (0 : Int32))] [] σ := (ra_micC 2 (fun f => f (rp_lay86, none, 99999, ra_m156) 2 [some (.ref 89), some (.int a1), some (.int (0 : Int32))] [] σ) (fun f => rfl) (ra_Lm.r0 _ _ _ _ _) : ra_Cz rp_lay86 156 [.ref 89, .int a1] σ = ra_D (rp_lay86, none, 99999, ra_m156) 2 [some (.ref 89), some (.int a1), some (.int (0 : Int32))] [] σ)
set_option maxRecDepth 100000 in
theorem p_156_2 (v1 : Int32) (v2 : Int32) (σ : ra_S) : ra_D (rp_lay86, none, 99999, ra_m156) 2 [some (.ref 89), some (.int v1), some (.int v2)] [] σ = (if v2 < v1 then (if 0 ≤ ((v1 + v2)).toInt ∧ ((v1 + v2)).toInt < 80 then (if 0 ≤ (v2).toInt ∧ (v2).toInt < 80 then ra_D (rp_lay86, none, 99999, ra_m156) 2 [some (.ref 89), some (.int v1), some (.int (v2 + (1 : Int32)))] [] (ra_ui σ 89 (v2).toNatClampNeg (σ.1 89 ((v1 + v2)).toNatClampNeg)) else none) else none) else some (.inl (none), σ)) := ((ra_mic 3 (fun f => (if v2 < v1 then f (rp_lay86, none, 99999, ra_m156) 7 [some (.ref 89), some (.int v1), some (.int v2)] [] σ else f (rp_lay86, none, 99999, ra_m156) 21 [some (.ref 89), some (.int v1), some (.int v2)] [] σ)) (fun f => rfl) (ra_Lm.ite (ra_Lm.r0 _ _ _ _ _) (ra_Lm.r0 _ _ _ _ _)) : ra_D (rp_lay86, none, 99999, ra_m156) 2 [some (.ref 89), some (.int v1), some (.int v2)] [] σ = (if v2 < v1 then ra_D (rp_lay86, none, 99999, ra_m156) 7 [some (.ref 89), some (.int v1), some (.int v2)] [] σ else ra_D (rp_lay86, none, 99999, ra_m156) 21 [some (.ref 89), some (.int v1), some (.int v2)] [] σ)).trans (ra_ite ((ra_mic 7 (fun f => (if 0 ≤ ((v1 + v2)).toInt ∧ ((v1 + v2)).toInt < 80 then f (rp_lay86, none, 99999, ra_m156) 14 [some (.ref 89), some (.int v1), some (.int v2)] [.int (σ.1 89 ((v1 + v2)).toNatClampNeg), .int v2, .ref 89] σ else none)) (fun f => rfl) (ra_Lm.ite (ra_Lm.r0 _ _ _ _ _) (ra_Lm.const _)) : ra_D (rp_lay86, none, 99999, ra_m156) 7 [some (.ref 89), some (.int v1), some (.int v2)] [] σ = (if 0 ≤ ((v1 + v2)).toInt ∧ ((v1 + v2)).toInt < 80 then ra_D (rp_lay86, none, 99999, ra_m156) 14 [some (.ref 89), some (.int v1), some (.int v2)] [.int (σ.1 89 ((v1 + v2)).toNatClampNeg), .int v2, .ref 89] σ else none)).trans (ra_ite ((ra_mic 1 (fun f => (if 0 ≤ (v2).toInt ∧ (v2).toInt < 80 then f (rp_lay86, none, 99999, ra_m156) 15 [some (.ref 89), some (.int v1), some (.int v2)] [] (ra_ui σ 89 (v2).toNatClampNeg (σ.1 89 ((v1 + v2)).toNatClampNeg)) else none)) (fun f => rfl) (ra_Lm.ite (ra_Lm.r0 _ _ _ _ _) (ra_Lm.const _)) : ra_D (rp_lay86, none, 99999, ra_m156) 14 [some (.ref 89), some (.int v1), some (.int v2)] [.int (σ.1 89 ((v1 + v2)).toNatClampNeg), .int v2, .ref 89] σ = (if 0 ≤ (v2).toInt ∧ (v2).toInt < 80 then ra_D (rp_lay86, none, 99999, ra_m156) 15 [some (.ref 89), some (.int v1), some (.int v2)] [] (ra_ui σ 89 (v2).toNatClampNeg (σ.1 89 ((v1 + v2)).toNatClampNeg)) else none)).trans (ra_ite (ra_mic 2 (fun f => f (rp_lay86, none, 99999, ra_m156) 2 [some (.ref 89), some (.int v1), some (.int (v2 + (1 : Int32)))] [] (ra_ui σ 89 (v2).toNatClampNeg (σ.1 89 ((v1 + v2)).toNatClampNeg))) (fun f => rfl) (ra_Lm.r0 _ _ _ _ _) : ra_D (rp_lay86, none, 99999, ra_m156) 15 [some (.ref 89), some (.int v1), some (.int v2)] [] (ra_ui σ 89 (v2).toNatClampNeg (σ.1 89 ((v1 + v2)).toNatClampNeg)) = ra_D (rp_lay86, none, 99999, ra_m156) 2 [some (.ref 89), some (.int v1), some (.int (v2 + (1 : Int32)))] [] (ra_ui σ 89 (v2).toNatClampNeg (σ.1 89 ((v1 + v2)).toNatClampNeg))) rfl)) rfl)) (ra_mic 1 (fun f => some (.inl (none), σ)) (fun f => rfl) (ra_Lm.const _) : ra_D (rp_lay86, none, 99999, ra_m156) 21 [some (.ref 89), some (.int v1), some (.int v2)] [] σ = some (.inl (none), σ))))
set_option maxRecDepth 100000 in
theorem p_156b (a1 : Int32) (σ : ra_S) : ra_Cz rp_lay86 156 [.ref 90, .int a1] σ = ra_D (rp_lay86, none, 99999, ra_m156) 2 [some (.ref 90), some (.int a1), some (.int (0 : Int32))] [] σ := (ra_micC 2 (fun f => f (rp_lay86, none, 99999, ra_m156) 2 [some (.ref 90), some (.int a1), some (.int (0 : Int32))] [] σ) (fun f => rfl) (ra_Lm.r0 _ _ _ _ _) : ra_Cz rp_lay86 156 [.ref 90, .int a1] σ = ra_D (rp_lay86, none, 99999, ra_m156) 2 [some (.ref 90), some (.int a1), some (.int (0 : Int32))] [] σ)
set_option maxRecDepth 100000 in
theorem p_156b_2 (v1 : Int32) (v2 : Int32) (σ : ra_S) : ra_D (rp_lay86, none, 99999, ra_m156) 2 [some (.ref 90), some (.int v1), some (.int v2)] [] σ = (if v2 < v1 then (if 0 ≤ ((v1 + v2)).toInt ∧ ((v1 + v2)).toInt < 12 then (if 0 ≤ (v2).toInt ∧ (v2).toInt < 12 then ra_D (rp_lay86, none, 99999, ra_m156) 2 [some (.ref 90), some (.int v1), some (.int (v2 + (1 : Int32)))] [] (ra_ui σ 90 (v2).toNatClampNeg (σ.1 90 ((v1 + v2)).toNatClampNeg)) else none) else none) else some (.inl (none), σ)) := ((ra_mic 3 (fun f => (if v2 < v1 then f (rp_lay86, none, 99999, ra_m156) 7 [some (.ref 90), some (.int v1), some (.int v2)] [] σ else f (rp_lay86, none, 99999, ra_m156) 21 [some (.ref 90), some (.int v1), some (.int v2)] [] σ)) (fun f => rfl) (ra_Lm.ite (ra_Lm.r0 _ _ _ _ _) (ra_Lm.r0 _ _ _ _ _)) : ra_D (rp_lay86, none, 99999, ra_m156) 2 [some (.ref 90), some (.int v1), some (.int v2)] [] σ = (if v2 < v1 then ra_D (rp_lay86, none, 99999, ra_m156) 7 [some (.ref 90), some (.int v1), some (.int v2)] [] σ else ra_D (rp_lay86, none, 99999, ra_m156) 21 [some (.ref 90), some (.int v1), some (.int v2)] [] σ)).trans (ra_ite ((ra_mic 7 (fun f => (if 0 ≤ ((v1 + v2)).toInt ∧ ((v1 + v2)).toInt < 12 then f (rp_lay86, none, 99999, ra_m156) 14 [some (.ref 90), some (.int v1), some (.int v2)] [.int (σ.1 90 ((v1 + v2)).toNatClampNeg), .int v2, .ref 90] σ else none)) (fun f => rfl) (ra_Lm.ite (ra_Lm.r0 _ _ _ _ _) (ra_Lm.const _)) : ra_D (rp_lay86, none, 99999, ra_m156) 7 [some (.ref 90), some (.int v1), some (.int v2)] [] σ = (if 0 ≤ ((v1 + v2)).toInt ∧ ((v1 + v2)).toInt < 12 then ra_D (rp_lay86, none, 99999, ra_m156) 14 [some (.ref 90), some (.int v1), some (.int v2)] [.int (σ.1 90 ((v1 + v2)).toNatClampNeg), .int v2, .ref 90] σ else none)).trans (ra_ite ((ra_mic 1 (fun f => (if 0 ≤ (v2).toInt ∧ (v2).toInt < 12 then f (rp_lay86, none, 99999, ra_m156) 15 [some (.ref 90), some (.int v1), some (.int v2)] [] (ra_ui σ 90 (v2).toNatClampNeg (σ.1 90 ((v1 + v2)).toNatClampNeg)) else none)) (fun f => rfl) (ra_Lm.ite (ra_Lm.r0 _ _ _ _ _) (ra_Lm.const _)) : ra_D (rp_lay86, none, 99999, ra_m156) 14 [some (.ref 90), some (.int v1), some (.int v2)] [.int (σ.1 90 ((v1 + v2)).toNatClampNeg), .int v2, .ref 90] σ = (if 0 ≤ (v2).toInt ∧ (v2).toInt < 12 then ra_D (rp_lay86, none, 99999, ra_m156) 15 [some (.ref 90), some (.int v1), some (.int v2)] [] (ra_ui σ 90 (v2).toNatClampNeg (σ.1 90 ((v1 + v2)).toNatClampNeg)) else none)).trans (ra_ite (ra_mic 2 (fun f => f (rp_lay86, none, 99999, ra_m156) 2 [some (.ref 90), some (.int v1), some (.int (v2 + (1 : Int32)))] [] (ra_ui σ 90 (v2).toNatClampNeg (σ.1 90 ((v1 + v2)).toNatClampNeg))) (fun f => rfl) (ra_Lm.r0 _ _ _ _ _) : ra_D (rp_lay86, none, 99999, ra_m156) 15 [some (.ref 90), some (.int v1), some (.int v2)] [] (ra_ui σ 90 (v2).toNatClampNeg (σ.1 90 ((v1 + v2)).toNatClampNeg)) = ra_D (rp_lay86, none, 99999, ra_m156) 2 [some (.ref 90), some (.int v1), some (.int (v2 + (1 : Int32)))] [] (ra_ui σ 90 (v2).toNatClampNeg (σ.1 90 ((v1 + v2)).toNatClampNeg))) rfl)) rfl)) (ra_mic 1 (fun f => some (.inl (none), σ)) (fun f => rfl) (ra_Lm.const _) : ra_D (rp_lay86, none, 99999, ra_m156) 21 [some (.ref 90), some (.int v1), some (.int v2)] [] σ = some (.inl (none), σ))))
set_option maxRecDepth 100000 in
theorem p_156c (a1 : Int32) (σ : ra_S) : ra_Cz rp_lay86 156 [.ref 91, .int a1] σ = ra_D (rp_lay86, none, 99999, ra_m156) 2 [some (.ref 91), some (.int a1), some (.int (0 : Int32))] [] σ := (ra_micC 2 (fun f => f (rp_lay86, none, 99999, ra_m156) 2 [some (.ref 91), some (.int a1), some (.int (0 : Int32))] [] σ) (fun f => rfl) (ra_Lm.r0 _ _ _ _ _) : ra_Cz rp_lay86 156 [.ref 91, .int a1] σ = ra_D (rp_lay86, none, 99999, ra_m156) 2 [some (.ref 91), some (.int a1), some (.int (0 : Int32))] [] σ)
set_option maxRecDepth 100000 in
theorem p_156c_2 (v1 : Int32) (v2 : Int32) (σ : ra_S) : ra_D (rp_lay86, none, 99999, ra_m156) 2 [some (.ref 91), some (.int v1), some (.int v2)] [] σ = (if v2 < v1 then (if 0 ≤ ((v1 + v2)).toInt ∧ ((v1 + v2)).toInt < 72 then (if 0 ≤ (v2).toInt ∧ (v2).toInt < 72 then ra_D (rp_lay86, none, 99999, ra_m156) 2 [some (.ref 91), some (.int v1), some (.int (v2 + (1 : Int32)))] [] (ra_ui σ 91 (v2).toNatClampNeg (σ.1 91 ((v1 + v2)).toNatClampNeg)) else none) else none) else some (.inl (none), σ)) := ((ra_mic 3 (fun f => (if v2 < v1 then f (rp_lay86, none, 99999, ra_m156) 7 [some (.ref 91), some (.int v1), some (.int v2)] [] σ else f (rp_lay86, none, 99999, ra_m156) 21 [some (.ref 91), some (.int v1), some (.int v2)] [] σ)) (fun f => rfl) (ra_Lm.ite (ra_Lm.r0 _ _ _ _ _) (ra_Lm.r0 _ _ _ _ _)) : ra_D (rp_lay86, none, 99999, ra_m156) 2 [some (.ref 91), some (.int v1), some (.int v2)] [] σ = (if v2 < v1 then ra_D (rp_lay86, none, 99999, ra_m156) 7 [some (.ref 91), some (.int v1), some (.int v2)] [] σ else ra_D (rp_lay86, none, 99999, ra_m156) 21 [some (.ref 91), some (.int v1), some (.int v2)] [] σ)).trans (ra_ite ((ra_mic 7 (fun f => (if 0 ≤ ((v1 + v2)).toInt ∧ ((v1 + v2)).toInt < 72 then f (rp_lay86, none, 99999, ra_m156) 14 [some (.ref 91), some (.int v1), some (.int v2)] [.int (σ.1 91 ((v1 + v2)).toNatClampNeg), .int v2, .ref 91] σ else none)) (fun f => rfl) (ra_Lm.ite (ra_Lm.r0 _ _ _ _ _) (ra_Lm.const _)) : ra_D (rp_lay86, none, 99999, ra_m156) 7 [some (.ref 91), some (.int v1), some (.int v2)] [] σ = (if 0 ≤ ((v1 + v2)).toInt ∧ ((v1 + v2)).toInt < 72 then ra_D (rp_lay86, none, 99999, ra_m156) 14 [some (.ref 91), some (.int v1), some (.int v2)] [.int (σ.1 91 ((v1 + v2)).toNatClampNeg), .int v2, .ref 91] σ else none)).trans (ra_ite ((ra_mic 1 (fun f => (if 0 ≤ (v2).toInt ∧ (v2).toInt < 72 then f (rp_lay86, none, 99999, ra_m156) 15 [some (.ref 91), some (.int v1), some (.int v2)] [] (ra_ui σ 91 (v2).toNatClampNeg (σ.1 91 ((v1 + v2)).toNatClampNeg)) else none)) (fun f => rfl) (ra_Lm.ite (ra_Lm.r0 _ _ _ _ _) (ra_Lm.const _)) : ra_D (rp_lay86, none, 99999, ra_m156) 14 [some (.ref 91), some (.int v1), some (.int v2)] [.int (σ.1 91 ((v1 + v2)).toNatClampNeg), .int v2, .ref 91] σ = (if 0 ≤ (v2).toInt ∧ (v2).toInt < 72 then ra_D (rp_lay86, none, 99999, ra_m156) 15 [some (.ref 91), some (.int v1), some (.int v2)] [] (ra_ui σ 91 (v2).toNatClampNeg (σ.1 91 ((v1 + v2)).toNatClampNeg)) else none)).trans (ra_ite (ra_mic 2 (fun f => f (rp_lay86, none, 99999, ra_m156) 2 [some (.ref 91), some (.int v1), some (.int (v2 + (1 : Int32)))] [] (ra_ui σ 91 (v2).toNatClampNeg (σ.1 91 ((v1 + v2)).toNatClampNeg))) (fun f => rfl) (ra_Lm.r0 _ _ _ _ _) : ra_D (rp_lay86, none, 99999, ra_m156) 15 [some (.ref 91), some (.int v1), some (.int v2)] [] (ra_ui σ 91 (v2).toNatClampNeg (σ.1 91 ((v1 + v2)).toNatClampNeg)) = ra_D (rp_lay86, none, 99999, ra_m156) 2 [some (.ref 91), some (.int v1), some (.int (v2 + (1 : Int32)))] [] (ra_ui σ 91 (v2).toNatClampNeg (σ.1 91 ((v1 + v2)).toNatClampNeg))) rfl)) rfl)) (ra_mic 1 (fun f => some (.inl (none), σ)) (fun f => rfl) (ra_Lm.const _) : ra_D (rp_lay86, none, 99999, ra_m156) 21 [some (.ref 91), some (.int v1), some (.int v2)] [] σ = some (.inl (none), σ))))
set_option maxRecDepth 100000 in
theorem p_156d (a1 : Int32) (σ : ra_S) : ra_Cz rp_lay86 156 [.ref 92, .int a1] σ = ra_D (rp_lay86, none, 99999, ra_m156) 2 [some (.ref 92), some (.int a1), some (.int (0 : Int32))] [] σ := (ra_micC 2 (fun f => f (rp_lay86, none, 99999, ra_m156) 2 [some (.ref 92), some (.int a1), some (.int (0 : Int32))] [] σ) (fun f => rfl) (ra_Lm.r0 _ _ _ _ _) : ra_Cz rp_lay86 156 [.ref 92, .int a1] σ = ra_D (rp_lay86, none, 99999, ra_m156) 2 [some (.ref 92), some (.int a1), some (.int (0 : Int32))] [] σ)
set_option maxRecDepth 100000 in
theorem p_156d_2 (v1 : Int32) (v2 : Int32) (σ : ra_S) : ra_D (rp_lay86, none, 99999, ra_m156) 2 [some (.ref 92), some (.int v1), some (.int v2)] [] σ = (if v2 < v1 then (if 0 ≤ ((v1 + v2)).toInt ∧ ((v1 + v2)).toInt < 16 then (if 0 ≤ (v2).toInt ∧ (v2).toInt < 16 then ra_D (rp_lay86, none, 99999, ra_m156) 2 [some (.ref 92), some (.int v1), some (.int (v2 + (1 : Int32)))] [] (ra_ui σ 92 (v2).toNatClampNeg (σ.1 92 ((v1 + v2)).toNatClampNeg)) else none) else none) else some (.inl (none), σ)) := ((ra_mic 3 (fun f => (if v2 < v1 then f (rp_lay86, none, 99999, ra_m156) 7 [some (.ref 92), some (.int v1), some (.int v2)] [] σ else f (rp_lay86, none, 99999, ra_m156) 21 [some (.ref 92), some (.int v1), some (.int v2)] [] σ)) (fun f => rfl) (ra_Lm.ite (ra_Lm.r0 _ _ _ _ _) (ra_Lm.r0 _ _ _ _ _)) : ra_D (rp_lay86, none, 99999, ra_m156) 2 [some (.ref 92), some (.int v1), some (.int v2)] [] σ = (if v2 < v1 then ra_D (rp_lay86, none, 99999, ra_m156) 7 [some (.ref 92), some (.int v1), some (.int v2)] [] σ else ra_D (rp_lay86, none, 99999, ra_m156) 21 [some (.ref 92), some (.int v1), some (.int v2)] [] σ)).trans (ra_ite ((ra_mic 7 (fun f => (if 0 ≤ ((v1 + v2)).toInt ∧ ((v1 + v2)).toInt < 16 then f (rp_lay86, none, 99999, ra_m156) 14 [some (.ref 92), some (.int v1), some (.int v2)] [.int (σ.1 92 ((v1 + v2)).toNatClampNeg), .int v2, .ref 92] σ else none)) (fun f => rfl) (ra_Lm.ite (ra_Lm.r0 _ _ _ _ _) (ra_Lm.const _)) : ra_D (rp_lay86, none, 99999, ra_m156) 7 [some (.ref 92), some (.int v1), some (.int v2)] [] σ = (if 0 ≤ ((v1 + v2)).toInt ∧ ((v1 + v2)).toInt < 16 then ra_D (rp_lay86, none, 99999, ra_m156) 14 [some (.ref 92), some (.int v1), some (.int v2)] [.int (σ.1 92 ((v1 + v2)).toNatClampNeg), .int v2, .ref 92] σ else none)).trans (ra_ite ((ra_mic 1 (fun f => (if 0 ≤ (v2).toInt ∧ (v2).toInt < 16 then f (rp_lay86, none, 99999, ra_m156) 15 [some (.ref 92), some (.int v1), some (.int v2)] [] (ra_ui σ 92 (v2).toNatClampNeg (σ.1 92 ((v1 + v2)).toNatClampNeg)) else none)) (fun f => rfl) (ra_Lm.ite (ra_Lm.r0 _ _ _ _ _) (ra_Lm.const _)) : ra_D (rp_lay86, none, 99999, ra_m156) 14 [some (.ref 92), some (.int v1), some (.int v2)] [.int (σ.1 92 ((v1 + v2)).toNatClampNeg), .int v2, .ref 92] σ = (if 0 ≤ (v2).toInt ∧ (v2).toInt < 16 then ra_D (rp_lay86, none, 99999, ra_m156) 15 [some (.ref 92), some (.int v1), some (.int v2)] [] (ra_ui σ 92 (v2).toNatClampNeg (σ.1 92 ((v1 + v2)).toNatClampNeg)) else none)).trans (ra_ite (ra_mic 2 (fun f => f (rp_lay86, none, 99999, ra_m156) 2 [some (.ref 92), some (.int v1), some (.int (v2 + (1 : Int32)))] [] (ra_ui σ 92 (v2).toNatClampNeg (σ.1 92 ((v1 + v2)).toNatClampNeg))) (fun f => rfl) (ra_Lm.r0 _ _ _ _ _) : ra_D (rp_lay86, none, 99999, ra_m156) 15 [some (.ref 92), some (.int v1), some (.int v2)] [] (ra_ui σ 92 (v2).toNatClampNeg (σ.1 92 ((v1 + v2)).toNatClampNeg)) = ra_D (rp_lay86, none, 99999, ra_m156) 2 [some (.ref 92), some (.int v1), some (.int (v2 + (1 : Int32)))] [] (ra_ui σ 92 (v2).toNatClampNeg (σ.1 92 ((v1 + v2)).toNatClampNeg))) rfl)) rfl)) (ra_mic 1 (fun f => some (.inl (none), σ)) (fun f => rfl) (ra_Lm.const _) : ra_D (rp_lay86, none, 99999, ra_m156) 21 [some (.ref 92), some (.int v1), some (.int v2)] [] σ = some (.inl (none), σ))))
set_option maxRecDepth 100000 in
theorem p_156e (a1 : Int32) (σ : ra_S) : ra_Cz rp_lay86 156 [.ref 93, .int a1] σ = ra_D (rp_lay86, none, 99999, ra_m156) 2 [some (.ref 93), some (.int a1), some (.int (0 : Int32))] [] σ := (ra_micC 2 (fun f => f (rp_lay86, none, 99999, ra_m156) 2 [some (.ref 93), some (.int a1), some (.int (0 : Int32))] [] σ) (fun f => rfl) (ra_Lm.r0 _ _ _ _ _) : ra_Cz rp_lay86 156 [.ref 93, .int a1] σ = ra_D (rp_lay86, none, 99999, ra_m156) 2 [some (.ref 93), some (.int a1), some (.int (0 : Int32))] [] σ)
set_option maxRecDepth 100000 in
theorem p_156e_2 (v1 : Int32) (v2 : Int32) (σ : ra_S) : ra_D (rp_lay86, none, 99999, ra_m156) 2 [some (.ref 93), some (.int v1), some (.int v2)] [] σ = (if v2 < v1 then (if 0 ≤ ((v1 + v2)).toInt ∧ ((v1 + v2)).toInt < 80 then (if 0 ≤ (v2).toInt ∧ (v2).toInt < 80 then ra_D (rp_lay86, none, 99999, ra_m156) 2 [some (.ref 93), some (.int v1), some (.int (v2 + (1 : Int32)))] [] (ra_ui σ 93 (v2).toNatClampNeg (σ.1 93 ((v1 + v2)).toNatClampNeg)) else none) else none) else some (.inl (none), σ)) := ((ra_mic 3 (fun f => (if v2 < v1 then f (rp_lay86, none, 99999, ra_m156) 7 [some (.ref 93), some (.int v1), some (.int v2)] [] σ else f (rp_lay86, none, 99999, ra_m156) 21 [some (.ref 93), some (.int v1), some (.int v2)] [] σ)) (fun f => rfl) (ra_Lm.ite (ra_Lm.r0 _ _ _ _ _) (ra_Lm.r0 _ _ _ _ _)) : ra_D (rp_lay86, none, 99999, ra_m156) 2 [some (.ref 93), some (.int v1), some (.int v2)] [] σ = (if v2 < v1 then ra_D (rp_lay86, none, 99999, ra_m156) 7 [some (.ref 93), some (.int v1), some (.int v2)] [] σ else ra_D (rp_lay86, none, 99999, ra_m156) 21 [some (.ref 93), some (.int v1), some (.int v2)] [] σ)).trans (ra_ite ((ra_mic 7 (fun f => (if 0 ≤ ((v1 + v2)).toInt ∧ ((v1 + v2)).toInt < 80 then f (rp_lay86, none, 99999, ra_m156) 14 [some (.ref 93), some (.int v1), some (.int v2)] [.int (σ.1 93 ((v1 + v2)).toNatClampNeg), .int v2, .ref 93] σ else none)) (fun f => rfl) (ra_Lm.ite (ra_Lm.r0 _ _ _ _ _) (ra_Lm.const _)) : ra_D (rp_lay86, none, 99999, ra_m156) 7 [some (.ref 93), some (.int v1), some (.int v2)] [] σ = (if 0 ≤ ((v1 + v2)).toInt ∧ ((v1 + v2)).toInt < 80 then ra_D (rp_lay86, none, 99999, ra_m156) 14 [some (.ref 93), some (.int v1), some (.int v2)] [.int (σ.1 93 ((v1 + v2)).toNatClampNeg), .int v2, .ref 93] σ else none)).trans (ra_ite ((ra_mic 1 (fun f => (if 0 ≤ (v2).toInt ∧ (v2).toInt < 80 then f (rp_lay86, none, 99999, ra_m156) 15 [some (.ref 93), some (.int v1), some (.int v2)] [] (ra_ui σ 93 (v2).toNatClampNeg (σ.1 93 ((v1 + v2)).toNatClampNeg)) else none)) (fun f => rfl) (ra_Lm.ite (ra_Lm.r0 _ _ _ _ _) (ra_Lm.const _)) : ra_D (rp_lay86, none, 99999, ra_m156) 14 [some (.ref 93), some (.int v1), some (.int v2)] [.int (σ.1 93 ((v1 + v2)).toNatClampNeg), .int v2, .ref 93] σ = (if 0 ≤ (v2).toInt ∧ (v2).toInt < 80 then ra_D (rp_lay86, none, 99999, ra_m156) 15 [some (.ref 93), some (.int v1), some (.int v2)] [] (ra_ui σ 93 (v2).toNatClampNeg (σ.1 93 ((v1 + v2)).toNatClampNeg)) else none)).trans (ra_ite (ra_mic 2 (fun f => f (rp_lay86, none, 99999, ra_m156) 2 [some (.ref 93), some (.int v1), some (.int (v2 + (1 : Int32)))] [] (ra_ui σ 93 (v2).toNatClampNeg (σ.1 93 ((v1 + v2)).toNatClampNeg))) (fun f => rfl) (ra_Lm.r0 _ _ _ _ _) : ra_D (rp_lay86, none, 99999, ra_m156) 15 [some (.ref 93), some (.int v1), some (.int v2)] [] (ra_ui σ 93 (v2).toNatClampNeg (σ.1 93 ((v1 + v2)).toNatClampNeg)) = ra_D (rp_lay86, none, 99999, ra_m156) 2 [some (.ref 93), some (.int v1), some (.int (v2 + (1 : Int32)))] [] (ra_ui σ 93 (v2).toNatClampNeg (σ.1 93 ((v1 + v2)).toNatClampNeg))) rfl)) rfl)) (ra_mic 1 (fun f => some (.inl (none), σ)) (fun f => rfl) (ra_Lm.const _) : ra_D (rp_lay86, none, 99999, ra_m156) 21 [some (.ref 93), some (.int v1), some (.int v2)] [] σ = some (.inl (none), σ))))
set_option maxRecDepth 100000 in
theorem p_156f (a1 : Int32) (σ : ra_S) : ra_Cz rp_lay86 156 [.ref 94, .int a1] σ = ra_D (rp_lay86, none, 99999, ra_m156) 2 [some (.ref 94), some (.int a1), some (.int (0 : Int32))] [] σ := (ra_micC 2 (fun f => f (rp_lay86, none, 99999, ra_m156) 2 [some (.ref 94), some (.int a1), some (.int (0 : Int32))] [] σ) (fun f => rfl) (ra_Lm.r0 _ _ _ _ _) : ra_Cz rp_lay86 156 [.ref 94, .int a1] σ = ra_D (rp_lay86, none, 99999, ra_m156) 2 [some (.ref 94), some (.int a1), some (.int (0 : Int32))] [] σ)
set_option maxRecDepth 100000 in
theorem p_156f_2 (v1 : Int32) (v2 : Int32) (σ : ra_S) : ra_D (rp_lay86, none, 99999, ra_m156) 2 [some (.ref 94), some (.int v1), some (.int v2)] [] σ = (if v2 < v1 then (if 0 ≤ ((v1 + v2)).toInt ∧ ((v1 + v2)).toInt < 16 then (if 0 ≤ (v2).toInt ∧ (v2).toInt < 16 then ra_D (rp_lay86, none, 99999, ra_m156) 2 [some (.ref 94), some (.int v1), some (.int (v2 + (1 : Int32)))] [] (ra_ui σ 94 (v2).toNatClampNeg (σ.1 94 ((v1 + v2)).toNatClampNeg)) else none) else none) else some (.inl (none), σ)) := ((ra_mic 3 (fun f => (if v2 < v1 then f (rp_lay86, none, 99999, ra_m156) 7 [some (.ref 94), some (.int v1), some (.int v2)] [] σ else f (rp_lay86, none, 99999, ra_m156) 21 [some (.ref 94), some (.int v1), some (.int v2)] [] σ)) (fun f => rfl) (ra_Lm.ite (ra_Lm.r0 _ _ _ _ _) (ra_Lm.r0 _ _ _ _ _)) : ra_D (rp_lay86, none, 99999, ra_m156) 2 [some (.ref 94), some (.int v1), some (.int v2)] [] σ = (if v2 < v1 then ra_D (rp_lay86, none, 99999, ra_m156) 7 [some (.ref 94), some (.int v1), some (.int v2)] [] σ else ra_D (rp_lay86, none, 99999, ra_m156) 21 [some (.ref 94), some (.int v1), some (.int v2)] [] σ)).trans (ra_ite ((ra_mic 7 (fun f => (if 0 ≤ ((v1 + v2)).toInt ∧ ((v1 + v2)).toInt < 16 then f (rp_lay86, none, 99999, ra_m156) 14 [some (.ref 94), some (.int v1), some (.int v2)] [.int (σ.1 94 ((v1 + v2)).toNatClampNeg), .int v2, .ref 94] σ else none)) (fun f => rfl) (ra_Lm.ite (ra_Lm.r0 _ _ _ _ _) (ra_Lm.const _)) : ra_D (rp_lay86, none, 99999, ra_m156) 7 [some (.ref 94), some (.int v1), some (.int v2)] [] σ = (if 0 ≤ ((v1 + v2)).toInt ∧ ((v1 + v2)).toInt < 16 then ra_D (rp_lay86, none, 99999, ra_m156) 14 [some (.ref 94), some (.int v1), some (.int v2)] [.int (σ.1 94 ((v1 + v2)).toNatClampNeg), .int v2, .ref 94] σ else none)).trans (ra_ite ((ra_mic 1 (fun f => (if 0 ≤ (v2).toInt ∧ (v2).toInt < 16 then f (rp_lay86, none, 99999, ra_m156) 15 [some (.ref 94), some (.int v1), some (.int v2)] [] (ra_ui σ 94 (v2).toNatClampNeg (σ.1 94 ((v1 + v2)).toNatClampNeg)) else none)) (fun f => rfl) (ra_Lm.ite (ra_Lm.r0 _ _ _ _ _) (ra_Lm.const _)) : ra_D (rp_lay86, none, 99999, ra_m156) 14 [some (.ref 94), some (.int v1), some (.int v2)] [.int (σ.1 94 ((v1 + v2)).toNatClampNeg), .int v2, .ref 94] σ = (if 0 ≤ (v2).toInt ∧ (v2).toInt < 16 then ra_D (rp_lay86, none, 99999, ra_m156) 15 [some (.ref 94), some (.int v1), some (.int v2)] [] (ra_ui σ 94 (v2).toNatClampNeg (σ.1 94 ((v1 + v2)).toNatClampNeg)) else none)).trans (ra_ite (ra_mic 2 (fun f => f (rp_lay86, none, 99999, ra_m156) 2 [some (.ref 94), some (.int v1), some (.int (v2 + (1 : Int32)))] [] (ra_ui σ 94 (v2).toNatClampNeg (σ.1 94 ((v1 + v2)).toNatClampNeg))) (fun f => rfl) (ra_Lm.r0 _ _ _ _ _) : ra_D (rp_lay86, none, 99999, ra_m156) 15 [some (.ref 94), some (.int v1), some (.int v2)] [] (ra_ui σ 94 (v2).toNatClampNeg (σ.1 94 ((v1 + v2)).toNatClampNeg)) = ra_D (rp_lay86, none, 99999, ra_m156) 2 [some (.ref 94), some (.int v1), some (.int (v2 + (1 : Int32)))] [] (ra_ui σ 94 (v2).toNatClampNeg (σ.1 94 ((v1 + v2)).toNatClampNeg))) rfl)) rfl)) (ra_mic 1 (fun f => some (.inl (none), σ)) (fun f => rfl) (ra_Lm.const _) : ra_D (rp_lay86, none, 99999, ra_m156) 21 [some (.ref 94), some (.int v1), some (.int v2)] [] σ = some (.inl (none), σ))))
set_option maxRecDepth 100000 in
theorem p_156g (a1 : Int32) (σ : ra_S) : ra_Cz rp_lay86 156 [.ref 95, .int a1] σ = ra_D (rp_lay86, none, 99999, ra_m156) 2 [some (.ref 95), some (.int a1), some (.int (0 : Int32))] [] σ := (ra_micC 2 (fun f => f (rp_lay86, none, 99999, ra_m156) 2 [some (.ref 95), some (.int a1), some (.int (0 : Int32))] [] σ) (fun f => rfl) (ra_Lm.r0 _ _ _ _ _) : ra_Cz rp_lay86 156 [.ref 95, .int a1] σ = ra_D (rp_lay86, none, 99999, ra_m156) 2 [some (.ref 95), some (.int a1), some (.int (0 : Int32))] [] σ)
set_option maxRecDepth 100000 in
theorem p_156g_2 (v1 : Int32) (v2 : Int32) (σ : ra_S) : ra_D (rp_lay86, none, 99999, ra_m156) 2 [some (.ref 95), some (.int v1), some (.int v2)] [] σ = (if v2 < v1 then (if 0 ≤ ((v1 + v2)).toInt ∧ ((v1 + v2)).toInt < 16 then (if 0 ≤ (v2).toInt ∧ (v2).toInt < 16 then ra_D (rp_lay86, none, 99999, ra_m156) 2 [some (.ref 95), some (.int v1), some (.int (v2 + (1 : Int32)))] [] (ra_ui σ 95 (v2).toNatClampNeg (σ.1 95 ((v1 + v2)).toNatClampNeg)) else none) else none) else some (.inl (none), σ)) := ((ra_mic 3 (fun f => (if v2 < v1 then f (rp_lay86, none, 99999, ra_m156) 7 [some (.ref 95), some (.int v1), some (.int v2)] [] σ else f (rp_lay86, none, 99999, ra_m156) 21 [some (.ref 95), some (.int v1), some (.int v2)] [] σ)) (fun f => rfl) (ra_Lm.ite (ra_Lm.r0 _ _ _ _ _) (ra_Lm.r0 _ _ _ _ _)) : ra_D (rp_lay86, none, 99999, ra_m156) 2 [some (.ref 95), some (.int v1), some (.int v2)] [] σ = (if v2 < v1 then ra_D (rp_lay86, none, 99999, ra_m156) 7 [some (.ref 95), some (.int v1), some (.int v2)] [] σ else ra_D (rp_lay86, none, 99999, ra_m156) 21 [some (.ref 95), some (.int v1), some (.int v2)] [] σ)).trans (ra_ite ((ra_mic 7 (fun f => (if 0 ≤ ((v1 + v2)).toInt ∧ ((v1 + v2)).toInt < 16 then f (rp_lay86, none, 99999, ra_m156) 14 [some (.ref 95), some (.int v1), some (.int v2)] [.int (σ.1 95 ((v1 + v2)).toNatClampNeg), .int v2, .ref 95] σ else none)) (fun f => rfl) (ra_Lm.ite (ra_Lm.r0 _ _ _ _ _) (ra_Lm.const _)) : ra_D (rp_lay86, none, 99999, ra_m156) 7 [some (.ref 95), some (.int v1), some (.int v2)] [] σ = (if 0 ≤ ((v1 + v2)).toInt ∧ ((v1 + v2)).toInt < 16 then ra_D (rp_lay86, none, 99999, ra_m156) 14 [some (.ref 95), some (.int v1), some (.int v2)] [.int (σ.1 95 ((v1 + v2)).toNatClampNeg), .int v2, .ref 95] σ else none)).trans (ra_ite ((ra_mic 1 (fun f => (if 0 ≤ (v2).toInt ∧ (v2).toInt < 16 then f (rp_lay86, none, 99999, ra_m156) 15 [some (.ref 95), some (.int v1), some (.int v2)] [] (ra_ui σ 95 (v2).toNatClampNeg (σ.1 95 ((v1 + v2)).toNatClampNeg)) else none)) (fun f => rfl) (ra_Lm.ite (ra_Lm.r0 _ _ _ _ _) (ra_Lm.const _)) : ra_D (rp_lay86, none, 99999, ra_m156) 14 [some (.ref 95), some (.int v1), some (.int v2)] [.int (σ.1 95 ((v1 + v2)).toNatClampNeg), .int v2, .ref 95] σ = (if 0 ≤ (v2).toInt ∧ (v2).toInt < 16 then ra_D (rp_lay86, none, 99999, ra_m156) 15 [some (.ref 95), some (.int v1), some (.int v2)] [] (ra_ui σ 95 (v2).toNatClampNeg (σ.1 95 ((v1 + v2)).toNatClampNeg)) else none)).trans (ra_ite (ra_mic 2 (fun f => f (rp_lay86, none, 99999, ra_m156) 2 [some (.ref 95), some (.int v1), some (.int (v2 + (1 : Int32)))] [] (ra_ui σ 95 (v2).toNatClampNeg (σ.1 95 ((v1 + v2)).toNatClampNeg))) (fun f => rfl) (ra_Lm.r0 _ _ _ _ _) : ra_D (rp_lay86, none, 99999, ra_m156) 15 [some (.ref 95), some (.int v1), some (.int v2)] [] (ra_ui σ 95 (v2).toNatClampNeg (σ.1 95 ((v1 + v2)).toNatClampNeg)) = ra_D (rp_lay86, none, 99999, ra_m156) 2 [some (.ref 95), some (.int v1), some (.int (v2 + (1 : Int32)))] [] (ra_ui σ 95 (v2).toNatClampNeg (σ.1 95 ((v1 + v2)).toNatClampNeg))) rfl)) rfl)) (ra_mic 1 (fun f => some (.inl (none), σ)) (fun f => rfl) (ra_Lm.const _) : ra_D (rp_lay86, none, 99999, ra_m156) 21 [some (.ref 95), some (.int v1), some (.int v2)] [] σ = some (.inl (none), σ))))
set_option maxRecDepth 100000 in
theorem p_156h (a1 : Int32) (σ : ra_S) : ra_Cz rp_lay86 156 [.ref 96, .int a1] σ = ra_D (rp_lay86, none, 99999, ra_m156) 2 [some (.ref 96), some (.int a1), some (.int (0 : Int32))] [] σ := (ra_micC 2 (fun f => f (rp_lay86, none, 99999, ra_m156) 2 [some (.ref 96), some (.int a1), some (.int (0 : Int32))] [] σ) (fun f => rfl) (ra_Lm.r0 _ _ _ _ _) : ra_Cz rp_lay86 156 [.ref 96, .int a1] σ = ra_D (rp_lay86, none, 99999, ra_m156) 2 [some (.ref 96), some (.int a1), some (.int (0 : Int32))] [] σ)
set_option maxRecDepth 100000 in
theorem p_156h_2 (v1 : Int32) (v2 : Int32) (σ : ra_S) : ra_D (rp_lay86, none, 99999, ra_m156) 2 [some (.ref 96), some (.int v1), some (.int v2)] [] σ = (if v2 < v1 then (if 0 ≤ ((v1 + v2)).toInt ∧ ((v1 + v2)).toInt < 42 then (if 0 ≤ (v2).toInt ∧ (v2).toInt < 42 then ra_D (rp_lay86, none, 99999, ra_m156) 2 [some (.ref 96), some (.int v1), some (.int (v2 + (1 : Int32)))] [] (ra_ui σ 96 (v2).toNatClampNeg (σ.1 96 ((v1 + v2)).toNatClampNeg)) else none) else none) else some (.inl (none), σ)) := ((ra_mic 3 (fun f => (if v2 < v1 then f (rp_lay86, none, 99999, ra_m156) 7 [some (.ref 96), some (.int v1), some (.int v2)] [] σ else f (rp_lay86, none, 99999, ra_m156) 21 [some (.ref 96), some (.int v1), some (.int v2)] [] σ)) (fun f => rfl) (ra_Lm.ite (ra_Lm.r0 _ _ _ _ _) (ra_Lm.r0 _ _ _ _ _)) : ra_D (rp_lay86, none, 99999, ra_m156) 2 [some (.ref 96), some (.int v1), some (.int v2)] [] σ = (if v2 < v1 then ra_D (rp_lay86, none, 99999, ra_m156) 7 [some (.ref 96), some (.int v1), some (.int v2)] [] σ else ra_D (rp_lay86, none, 99999, ra_m156) 21 [some (.ref 96), some (.int v1), some (.int v2)] [] σ)).trans (ra_ite ((ra_mic 7 (fun f => (if 0 ≤ ((v1 + v2)).toInt ∧ ((v1 + v2)).toInt < 42 then f (rp_lay86, none, 99999, ra_m156) 14 [some (.ref 96), some (.int v1), some (.int v2)] [.int (σ.1 96 ((v1 + v2)).toNatClampNeg), .int v2, .ref 96] σ else none)) (fun f => rfl) (ra_Lm.ite (ra_Lm.r0 _ _ _ _ _) (ra_Lm.const _)) : ra_D (rp_lay86, none, 99999, ra_m156) 7 [some (.ref 96), some (.int v1), some (.int v2)] [] σ = (if 0 ≤ ((v1 + v2)).toInt ∧ ((v1 + v2)).toInt < 42 then ra_D (rp_lay86, none, 99999, ra_m156) 14 [some (.ref 96), some (.int v1), some (.int v2)] [.int (σ.1 96 ((v1 + v2)).toNatClampNeg), .int v2, .ref 96] σ else none)).trans (ra_ite ((ra_mic 1 (fun f => (if 0 ≤ (v2).toInt ∧ (v2).toInt < 42 then f (rp_lay86, none, 99999, ra_m156) 15 [some (.ref 96), some (.int v1), some (.int v2)] [] (ra_ui σ 96 (v2).toNatClampNeg (σ.1 96 ((v1 + v2)).toNatClampNeg)) else none)) (fun f => rfl) (ra_Lm.ite (ra_Lm.r0 _ _ _ _ _) (ra_Lm.const _)) : ra_D (rp_lay86, none, 99999, ra_m156) 14 [some (.ref 96), some (.int v1), some (.int v2)] [.int (σ.1 96 ((v1 + v2)).toNatClampNeg), .int v2, .ref 96] σ = (if 0 ≤ (v2).toInt ∧ (v2).toInt < 42 then ra_D (rp_lay86, none, 99999, ra_m156) 15 [some (.ref 96), some (.int v1), some (.int v2)] [] (ra_ui σ 96 (v2).toNatClampNeg (σ.1 96 ((v1 + v2)).toNatClampNeg)) else none)).trans (ra_ite (ra_mic 2 (fun f => f (rp_lay86, none, 99999, ra_m156) 2 [some (.ref 96), some (.int v1), some (.int (v2 + (1 : Int32)))] [] (ra_ui σ 96 (v2).toNatClampNeg (σ.1 96 ((v1 + v2)).toNatClampNeg))) (fun f => rfl) (ra_Lm.r0 _ _ _ _ _) : ra_D (rp_lay86, none, 99999, ra_m156) 15 [some (.ref 96), some (.int v1), some (.int v2)] [] (ra_ui σ 96 (v2).toNatClampNeg (σ.1 96 ((v1 + v2)).toNatClampNeg)) = ra_D (rp_lay86, none, 99999, ra_m156) 2 [some (.ref 96), some (.int v1), some (.int (v2 + (1 : Int32)))] [] (ra_ui σ 96 (v2).toNatClampNeg (σ.1 96 ((v1 + v2)).toNatClampNeg))) rfl)) rfl)) (ra_mic 1 (fun f => some (.inl (none), σ)) (fun f => rfl) (ra_Lm.const _) : ra_D (rp_lay86, none, 99999, ra_m156) 21 [some (.ref 96), some (.int v1), some (.int v2)] [] σ = some (.inl (none), σ))))
set_option maxRecDepth 100000 in
theorem p_157 (σ : ra_S) : ra_Cz rp_lay86 157 [.ref 86] σ = (ra_Cz rp_lay86 156 [.ref 89, .int (40 : Int32)] (ra_ui (ra_ui (ra_ui (ra_ui (ra_ui (ra_ui σ 86 12 (σ.1 86 18)) 86 13 (σ.1 86 19)) 86 14 (σ.1 86 20)) 86 15 (σ.1 86 21)) 86 16 (σ.1 86 22)) 86 17 (σ.1 86 23))).bind (ra_kv fun s1 => (ra_Cz rp_lay86 156 [.ref 90, .int (6 : Int32)] s1).bind (ra_kv fun s2 => (ra_Cz rp_lay86 156 [.ref 91, .int (36 : Int32)] s2).bind (ra_kv fun s3 => (ra_Cz rp_lay86 156 [.ref 92, .int (8 : Int32)] s3).bind (ra_kv fun s4 => (ra_Cz rp_lay86 156 [.ref 93, .int (40 : Int32)] s4).bind (ra_kv fun s5 => (ra_Cz rp_lay86 156 [.ref 94, .int (8 : Int32)] s5).bind (ra_kv fun s6 => (ra_Cz rp_lay86 156 [.ref 95, .int (8 : Int32)] s6).bind (ra_kv fun s7 => (ra_Cz rp_lay86 156 [.ref 96, .int (21 : Int32)] s7).bind (ra_kv fun s8 => ra_D (rp_lay86, none, 99999, ra_m157) 122 [some (.ref 86), some (.int (0 : Int32))] [] s8)))))))) := ((ra_micC 28 (fun f => (f (rp_lay86, none, 99999, ra_mt 156) 0 (ra_lo0 (ra_mt 156).2.2.2.1.1 [.ref 89, .int (40 : Int32)]) [] (ra_ui (ra_ui (ra_ui (ra_ui (ra_ui (ra_ui σ 86 12 (σ.1 86 18)) 86 13 (σ.1 86 19)) 86 14 (σ.1 86 20)) 86 15 (σ.1 86 21)) 86 16 (σ.1 86 22)) 86 17 (σ.1 86 23))).bind (ra_kv fun s1 => f (rp_lay86, none, 99999, ra_m157) 57 [some (.ref 86), none] [] s1)) (fun f => rfl) (ra_Lm.kv (ra_Lm.c0 _ _ _ _) (fun s1 => (ra_Lm.r0 _ _ _ _ _))) : ra_Cz rp_lay86 157 [.ref 86] σ = (ra_Cz rp_lay86 156 [.ref 89, .int (40 : Int32)] (ra_ui (ra_ui (ra_ui (ra_ui (ra_ui (ra_ui σ 86 12 (σ.1 86 18)) 86 13 (σ.1 86 19)) 86 14 (σ.1 86 20)) 86 15 (σ.1 86 21)) 86 16 (σ.1 86 22)) 86 17 (σ.1 86 23))).bind (ra_kv fun s1 => ra_D (rp_lay86, none, 99999, ra_m157) 57 [some (.ref 86), none] [] s1)).trans (ra_bkv (fun s1 => ((ra_mic 4 (fun f => (f (rp_lay86, none, 99999, ra_mt 156) 0 (ra_lo0 (ra_mt 156).2.2.2.1.1 [.ref 90, .int (6 : Int32)]) [] s1).bind (ra_kv fun s2 => f (rp_lay86, none, 99999, ra_m157) 66 [some (.ref 86), none] [] s2)) (fun f => rfl) (ra_Lm.kv (ra_Lm.c0 _ _ _ _) (fun s2 => (ra_Lm.r0 _ _ _ _ _))) : ra_D (rp_lay86, none, 99999, ra_m157) 57 [some (.ref 86), none] [] s1 = (ra_Cz rp_lay86 156 [.ref 90, .int (6 : Int32)] s1).bind (ra_kv fun s2 => ra_D (rp_lay86, none, 99999, ra_m157) 66 [some (.ref 86), none] [] s2)).trans (ra_bkv (fun s2 => ((ra_mic 4 (fun f => (f (rp_lay86, none, 99999, ra_mt 156) 0 (ra_lo0 (ra_mt 156).2.2.2.1.1 [.ref 91, .int (36 : Int32)]) [] s2).bind (ra_kv fun s3 => f (rp_lay86, none, 99999, ra_m157) 75 [some (.ref 86), none] [] s3)) (fun f => rfl) (ra_Lm.kv (ra_Lm.c0 _ _ _ _) (fun s3 => (ra_Lm.r0 _ _ _ _ _))) : ra_D (rp_lay86, none, 99999, ra_m157) 66 [some (.ref 86), none] [] s2 = (ra_Cz rp_lay86 156 [.ref 91, .int (36 : Int32)] s2).bind (ra_kv fun s3 => ra_D (rp_lay86, none, 99999, ra_m157) 75 [some (.ref 86), none] [] s3)).trans (ra_bkv (fun s3 => ((ra_mic 4 (fun f => (f (rp_lay86, none, 99999, ra_mt 156) 0 (ra_lo0 (ra_mt 156).2.2.2.1.1 [.ref 92, .int (8 : Int32)]) [] s3).bind (ra_kv fun s4 => f (rp_lay86, none, 99999, ra_m157) 84 [some (.ref 86), none] [] s4)) (fun f => rfl) (ra_Lm.kv (ra_Lm.c0 _ _ _ _) (fun s4 => (ra_Lm.r0 _ _ _ _ _))) : ra_D (rp_lay86, none, 99999, ra_m157) 75 [some (.ref 86), none] [] s3 = (ra_Cz rp_lay86 156 [.ref 92, .int (8 : Int32)] s3).bind (ra_kv fun s4 => ra_D (rp_lay86, none, 99999, ra_m157) 84 [some (.ref 86), none] [] s4)).trans (ra_bkv (fun s4 => ((ra_mic 4 (fun f => (f (rp_lay86, none, 99999, ra_mt 156) 0 (ra_lo0 (ra_mt 156).2.2.2.1.1 [.ref 93, .int (40 : Int32)]) [] s4).bind (ra_kv fun s5 => f (rp_lay86, none, 99999, ra_m157) 93 [some (.ref 86), none] [] s5)) (fun f => rfl) (ra_Lm.kv (ra_Lm.c0 _ _ _ _) (fun s5 => (ra_Lm.r0 _ _ _ _ _))) : ra_D (rp_lay86, none, 99999, ra_m157) 84 [some (.ref 86), none] [] s4 = (ra_Cz rp_lay86 156 [.ref 93, .int (40 : Int32)] s4).bind (ra_kv fun s5 => ra_D (rp_lay86, none, 99999, ra_m157) 93 [some (.ref 86), none] [] s5)).trans (ra_bkv (fun s5 => ((ra_mic 4 (fun f => (f (rp_lay86, none, 99999, ra_mt 156) 0 (ra_lo0 (ra_mt 156).2.2.2.1.1 [.ref 94, .int (8 : Int32)]) [] s5).bind (ra_kv fun s6 => f (rp_lay86, none, 99999, ra_m157) 102 [some (.ref 86), none] [] s6)) (fun f => rfl) (ra_Lm.kv (ra_Lm.c0 _ _ _ _) (fun s6 => (ra_Lm.r0 _ _ _ _ _))) : ra_D (rp_lay86, none, 99999, ra_m157) 93 [some (.ref 86), none] [] s5 = (ra_Cz rp_lay86 156 [.ref 94, .int (8 : Int32)] s5).bind (ra_kv fun s6 => ra_D (rp_lay86, none, 99999, ra_m157) 102 [some (.ref 86), none] [] s6)).trans (ra_bkv (fun s6 => ((ra_mic 4 (fun f => (f (rp_lay86, none, 99999, ra_mt 156) 0 (ra_lo0 (ra_mt 156).2.2.2.1.1 [.ref 95, .int (8 : Int32)]) [] s6).bind (ra_kv fun s7 => f (rp_lay86, none, 99999, ra_m157) 111 [some (.ref 86), none] [] s7)) (fun f => rfl) (ra_Lm.kv (ra_Lm.c0 _ _ _ _) (fun s7 => (ra_Lm.r0 _ _ _ _ _))) : ra_D (rp_lay86, none, 99999, ra_m157) 102 [some (.ref 86), none] [] s6 = (ra_Cz rp_lay86 156 [.ref 95, .int (8 : Int32)] s6).bind (ra_kv fun s7 => ra_D (rp_lay86, none, 99999, ra_m157) 111 [some (.ref 86), none] [] s7)).trans (ra_bkv (fun s7 => ((ra_mic 4 (fun f => (f (rp_lay86, none, 99999, ra_mt 156) 0 (ra_lo0 (ra_mt 156).2.2.2.1.1 [.ref 96, .int (21 : Int32)]) [] s7).bind (ra_kv fun s8 => f (rp_lay86, none, 99999, ra_m157) 120 [some (.ref 86), none] [] s8)) (fun f => rfl) (ra_Lm.kv (ra_Lm.c0 _ _ _ _) (fun s8 => (ra_Lm.r0 _ _ _ _ _))) : ra_D (rp_lay86, none, 99999, ra_m157) 111 [some (.ref 86), none] [] s7 = (ra_Cz rp_lay86 156 [.ref 96, .int (21 : Int32)] s7).bind (ra_kv fun s8 => ra_D (rp_lay86, none, 99999, ra_m157) 120 [some (.ref 86), none] [] s8)).trans (ra_bkv (fun s8 => (ra_mic 2 (fun f => f (rp_lay86, none, 99999, ra_m157) 122 [some (.ref 86), some (.int (0 : Int32))] [] s8) (fun f => rfl) (ra_Lm.r0 _ _ _ _ _) : ra_D (rp_lay86, none, 99999, ra_m157) 120 [some (.ref 86), none] [] s8 = ra_D (rp_lay86, none, 99999, ra_m157) 122 [some (.ref 86), some (.int (0 : Int32))] [] s8)))))))))))))))))))))))))
set_option maxRecDepth 100000 in
theorem p_157_122 (v1 : Int32) (σ : ra_S) : ra_D (rp_lay86, none, 99999, ra_m157) 122 [some (.ref 86), some (.int v1)] [] σ = (if v1 < (8 : Int32) then (if 0 ≤ (v1).toInt ∧ (v1).toInt < 8 then ra_D (rp_lay86, none, 99999, ra_m157) 122 [some (.ref 86), some (.int (v1 + (1 : Int32)))] [] (ra_ui σ 101 (v1).toNatClampNeg (0 : Int32)) else none) else some (.inl (none), (ra_ui (ra_ui (ra_ui σ 86 47 (0 : Int32)) 86 48 (-1 : Int32)) 86 43 (0 : Int32)))) := ((ra_mic 3 (fun f => (if v1 < (8 : Int32) then f (rp_lay86, none, 99999, ra_m157) 128 [some (.ref 86), some (.int v1)] [] σ else f (rp_lay86, none, 99999, ra_m157) 141 [some (.ref 86), some (.int v1)] [] σ)) (fun f => rfl) (ra_Lm.ite (ra_Lm.r0 _ _ _ _ _) (ra_Lm.r0 _ _ _ _ _)) : ra_D (rp_lay86, none, 99999, ra_m157) 122 [some (.ref 86), some (.int v1)] [] σ = (if v1 < (8 : Int32) then ra_D (rp_lay86, none, 99999, ra_m157) 128 [some (.ref 86), some (.int v1)] [] σ else ra_D (rp_lay86, none, 99999, ra_m157) 141 [some (.ref 86), some (.int v1)] [] σ)).trans (ra_ite ((ra_mic 5 (fun f => (if 0 ≤ (v1).toInt ∧ (v1).toInt < 8 then f (rp_lay86, none, 99999, ra_m157) 135 [some (.ref 86), some (.int v1)] [] (ra_ui σ 101 (v1).toNatClampNeg (0 : Int32)) else none)) (fun f => rfl) (ra_Lm.ite (ra_Lm.r0 _ _ _ _ _) (ra_Lm.const _)) : ra_D (rp_lay86, none, 99999, ra_m157) 128 [some (.ref 86), some (.int v1)] [] σ = (if 0 ≤ (v1).toInt ∧ (v1).toInt < 8 then ra_D (rp_lay86, none, 99999, ra_m157) 135 [some (.ref 86), some (.int v1)] [] (ra_ui σ 101 (v1).toNatClampNeg (0 : Int32)) else none)).trans (ra_ite (ra_mic 2 (fun f => f (rp_lay86, none, 99999, ra_m157) 122 [some (.ref 86), some (.int (v1 + (1 : Int32)))] [] (ra_ui σ 101 (v1).toNatClampNeg (0 : Int32))) (fun f => rfl) (ra_Lm.r0 _ _ _ _ _) : ra_D (rp_lay86, none, 99999, ra_m157) 135 [some (.ref 86), some (.int v1)] [] (ra_ui σ 101 (v1).toNatClampNeg (0 : Int32)) = ra_D (rp_lay86, none, 99999, ra_m157) 122 [some (.ref 86), some (.int (v1 + (1 : Int32)))] [] (ra_ui σ 101 (v1).toNatClampNeg (0 : Int32))) rfl)) (ra_mic 10 (fun f => some (.inl (none), (ra_ui (ra_ui (ra_ui σ 86 47 (0 : Int32)) 86 48 (-1 : Int32)) 86 43 (0 : Int32)))) (fun f => rfl) (ra_Lm.const _) : ra_D (rp_lay86, none, 99999, ra_m157) 141 [some (.ref 86), some (.int v1)] [] σ = some (.inl (none), (ra_ui (ra_ui (ra_ui σ 86 47 (0 : Int32)) 86 48 (-1 : Int32)) 86 43 (0 : Int32))))))
def rp_Tc (t : Nat → Nat) (N n : Nat) (τ : ra_S) : Prop := τ.1 2 3 = nI N ∧ N ≤ 800 ∧ τ.1 2 4 = nI n ∧ n ≤ N ∧ (∀ i, i < N → τ.1 3 i = nI (t i) ∧ t i ≤ 255) ∧ True
theorem rp_Tc_ui {t : Nat → Nat} {N n : Nat} {τ : ra_S} (h : rp_Tc t N n τ) {k : Nat} {x : Int32} (hk : 5 ≤ k) : rp_Tc t N n (ra_ui τ 2 k x) := by
  obtain ⟨h1, h2, h3, h4, h5, h6⟩ := h
  exact ⟨by rw [ra_ui_get, if_neg (fun q => by omega)]; exact h1, h2, by rw [ra_ui_get, if_neg (fun q => by omega)]; exact h3, h4, fun i hi => by rw [ra_ui_1 3 (by decide)]; exact h5 i hi, h6⟩
theorem rp_Tc_n {t : Nat → Nat} {N n m : Nat} {τ : ra_S} (h : rp_Tc t N n τ) (hm : m ≤ N) : rp_Tc t N m (ra_ui τ 2 4 (nI m)) := by
  obtain ⟨h1, h2, h3, h4, h5, h6⟩ := h
  exact ⟨by rw [ra_ui_get, if_neg (fun q => by omega)]; exact h1, h2, by rw [ra_ui_get, if_pos ⟨rfl, rfl⟩], hm, fun i hi => by rw [ra_ui_1 3 (by decide)]; exact h5 i hi, h6⟩
section RPTK
variable {t : Nat → Nat} {N : Nat}
theorem rp_c_let (a : Nat) : ∀ d k, a + k + d = N → ∀ τ : ra_S, rp_Tc t N (a + k) τ → τ.1 2 7 = nI (rz_pk t a k) → ∃ υ : ra_S, ra_D (rp_lay2, none, 99999, ra_m75) 2 [some (.ref 2), some (.int (nI k))] [] τ = ra_I (nI (rz_run (rz_isL t) d (a + k) - a)) υ ∧ rp_Tc t N (rz_run (rz_isL t) d (a + k)) υ ∧ rz_f2 τ υ ∧ υ.1 2 7 = nI (rz_pk t a (rz_run (rz_isL t) d (a + k) - a)) ∧ υ.1 2 6 = τ.1 2 6 := by
  intro d
  induction d with
  | zero =>
    intro k hk τ h hv
    obtain ⟨h1, h2, h3, h4, h5, h6⟩ := id h
    rw [p_75_2, h3, h1, rz_inl (by omega) (by omega), rz_run, show a + k - a = k by omega]
    exact ⟨τ, rfl, h, rz_f2.rf τ, hv, rfl⟩
  | succ d ih =>
    intro k hk τ h hv
    obtain ⟨h1, h2, h3, h4, h5, h6⟩ := id h
    obtain ⟨b1, b2⟩ := h5 (a + k) (by omega)
    have stop : ¬ rz_isL t (a + k) → ∃ υ : ra_S, ra_I (nI k) τ = ra_I (nI (rz_run (rz_isL t) (d + 1) (a + k) - a)) υ ∧ rp_Tc t N (rz_run (rz_isL t) (d + 1) (a + k)) υ ∧ rz_f2 τ υ ∧ υ.1 2 7 = nI (rz_pk t a (rz_run (rz_isL t) (d + 1) (a + k) - a)) ∧ υ.1 2 6 = τ.1 2 6 := fun q => by
      rw [rz_run, if_neg q, show a + k - a = k by omega]
      exact ⟨τ, rfl, h, rz_f2.rf τ, hv, rfl⟩
    rw [p_75_2, h3, h1, rz_il (by omega) (by omega), rz_ig (by omega) (by omega), nI_clamp (by omega), b1, rz_ig (by omega) (by omega), show (97 : Int32) = nI 97 from rfl, show (122 : Int32) = nI 122 from rfl, show (6 : Int32) = nI 6 from rfl, rz_ltt (by omega) (by omega), rz_ltt (by omega) (by omega), rz_ltt (by omega) (by omega), rz_ig (by omega) (by omega), p_75_76, p_75_76, hv, h3, nI_1, nI_1]
    by_cases z : t (a + k) < 97
    · rw [if_pos z]; exact stop (by omega)
    · rw [if_neg z]
      by_cases y : 122 < t (a + k)
      · rw [if_pos y]; exact stop (by omega)
      · have il : rz_isL t (a + k) := ⟨by omega, by omega⟩
        rw [if_neg y, rz_run, if_pos il]
        by_cases x : k < 6
        · rw [if_pos x, show nI 97 = (97 : Int32) from rfl, rz_ltk il x, rz_pk_or t a x il.2, show (ra_ui τ 2 7 (nI (rz_pk t a (k + 1)))).1 2 4 = nI (a + k) by rw [ra_ui_get, if_neg (by decide)]; exact h3, nI_1]
          obtain ⟨υ, e, g1, g2, g3, g4⟩ := ih (k + 1) (by omega) (ra_ui (ra_ui τ 2 7 (nI (rz_pk t a (k + 1)))) 2 4 (nI (a + k + 1))) (rp_Tc_n (rp_Tc_ui h (by omega)) (by omega)) (by rw [ra_ui_get, if_neg (by decide), ra_ui_get, if_pos ⟨rfl, rfl⟩])
          refine ⟨υ, e, g1, (((rz_f2.rf τ).ui (by omega)).ui (by omega)).tr g2, g3, ?_⟩
          rw [g4, ra_ui_get, if_neg (by decide), ra_ui_get, if_neg (by decide)]
        · rw [if_neg x]
          obtain ⟨υ, e, g1, g2, g3, g4⟩ := ih (k + 1) (by omega) (ra_ui τ 2 4 (nI (a + k + 1))) (rp_Tc_n h (by omega)) (by rw [ra_ui_get, if_neg (by decide), hv, rz_pk6 t a (n := k) (by omega), rz_pk6 t a (n := k + 1) (by omega)])
          refine ⟨υ, e, g1, ((rz_f2.rf τ).ui (by omega)).tr g2, g3, ?_⟩
          rw [g4, ra_ui_get, if_neg (by decide)]
end RPTK
theorem rp_cp89 (ψ : ra_S) : ∃ υ : ra_S, ra_Cz rp_lay86 156 [.ref 89, .int (40 : Int32)] ψ = ra_V υ ∧ (∀ c', c' ≠ 89 → υ.1 c' = ψ.1 c') ∧ (∀ k, k < 40 → υ.1 89 k = ψ.1 89 (40 + k)) ∧ υ.2 = ψ.2 := by
  have loop : ∀ (d i : Nat) (υ : ra_S), i + d = 40 → (∀ c', c' ≠ 89 → υ.1 c' = ψ.1 c') → (∀ k, k < i → υ.1 89 k = ψ.1 89 (40 + k)) → (∀ k, 40 ≤ k → υ.1 89 k = ψ.1 89 k) → υ.2 = ψ.2 → ∃ υ' : ra_S, ra_D (rp_lay86, none, 99999, ra_m156) 2 [some (.ref 89), some (.int (nI 40)), some (.int (nI i))] [] υ = ra_V υ' ∧ (∀ c', c' ≠ 89 → υ'.1 c' = ψ.1 c') ∧ (∀ k, k < 40 → υ'.1 89 k = ψ.1 89 (40 + k)) ∧ υ'.2 = ψ.2 := by
    intro d
    induction d with
    | zero =>
      intro i υ hi h1 h2 h3 h4
      have : i = 40 := by omega
      subst this
      rw [p_156_2, rz_inl (by omega) (by omega)]
      exact ⟨υ, rfl, h1, h2, h4⟩
    | succ d ih =>
      intro i υ hi h1 h2 h3 h4
      rw [p_156_2, rz_il (by omega) (by omega), nI_add, rz_ig (by omega) (by omega), rz_ig (by omega) (by omega), nI_clamp (by omega), nI_clamp (by omega), nI_1]
      refine ih (i + 1) _ (by omega) (fun c' hc' => (ra_ui_1 c' hc').trans (h1 c' hc')) (fun k hk => ?_) (fun k hk => ?_) h4
      · rw [ra_ui_get]
        by_cases y : k = i
        · rw [if_pos ⟨rfl, y⟩, y]; exact h3 _ (by omega)
        · rw [if_neg (fun q => y q.2)]; exact h2 k (by omega)
      · rw [ra_ui_get, if_neg (fun q => by omega)]; exact h3 k hk
  obtain ⟨υ, e, q⟩ := loop 40 0 ψ (by omega) (fun _ _ => rfl) (fun k hk => absurd hk (Nat.not_lt_zero k)) (fun _ _ => rfl) rfl
  exact ⟨υ, by rw [p_156]; exact e, q⟩
theorem rp_cp90 (ψ : ra_S) : ∃ υ : ra_S, ra_Cz rp_lay86 156 [.ref 90, .int (6 : Int32)] ψ = ra_V υ ∧ (∀ c', c' ≠ 90 → υ.1 c' = ψ.1 c') ∧ (∀ k, k < 6 → υ.1 90 k = ψ.1 90 (6 + k)) ∧ υ.2 = ψ.2 := by
  have loop : ∀ (d i : Nat) (υ : ra_S), i + d = 6 → (∀ c', c' ≠ 90 → υ.1 c' = ψ.1 c') → (∀ k, k < i → υ.1 90 k = ψ.1 90 (6 + k)) → (∀ k, 6 ≤ k → υ.1 90 k = ψ.1 90 k) → υ.2 = ψ.2 → ∃ υ' : ra_S, ra_D (rp_lay86, none, 99999, ra_m156) 2 [some (.ref 90), some (.int (nI 6)), some (.int (nI i))] [] υ = ra_V υ' ∧ (∀ c', c' ≠ 90 → υ'.1 c' = ψ.1 c') ∧ (∀ k, k < 6 → υ'.1 90 k = ψ.1 90 (6 + k)) ∧ υ'.2 = ψ.2 := by
    intro d
    induction d with
    | zero =>
      intro i υ hi h1 h2 h3 h4
      have : i = 6 := by omega
      subst this
      rw [p_156b_2, rz_inl (by omega) (by omega)]
      exact ⟨υ, rfl, h1, h2, h4⟩
    | succ d ih =>
      intro i υ hi h1 h2 h3 h4
      rw [p_156b_2, rz_il (by omega) (by omega), nI_add, rz_ig (by omega) (by omega), rz_ig (by omega) (by omega), nI_clamp (by omega), nI_clamp (by omega), nI_1]
      refine ih (i + 1) _ (by omega) (fun c' hc' => (ra_ui_1 c' hc').trans (h1 c' hc')) (fun k hk => ?_) (fun k hk => ?_) h4
      · rw [ra_ui_get]
        by_cases y : k = i
        · rw [if_pos ⟨rfl, y⟩, y]; exact h3 _ (by omega)
        · rw [if_neg (fun q => y q.2)]; exact h2 k (by omega)
      · rw [ra_ui_get, if_neg (fun q => by omega)]; exact h3 k hk
  obtain ⟨υ, e, q⟩ := loop 6 0 ψ (by omega) (fun _ _ => rfl) (fun k hk => absurd hk (Nat.not_lt_zero k)) (fun _ _ => rfl) rfl
  exact ⟨υ, by rw [p_156b]; exact e, q⟩
theorem rp_cp91 (ψ : ra_S) : ∃ υ : ra_S, ra_Cz rp_lay86 156 [.ref 91, .int (36 : Int32)] ψ = ra_V υ ∧ (∀ c', c' ≠ 91 → υ.1 c' = ψ.1 c') ∧ (∀ k, k < 36 → υ.1 91 k = ψ.1 91 (36 + k)) ∧ υ.2 = ψ.2 := by
  have loop : ∀ (d i : Nat) (υ : ra_S), i + d = 36 → (∀ c', c' ≠ 91 → υ.1 c' = ψ.1 c') → (∀ k, k < i → υ.1 91 k = ψ.1 91 (36 + k)) → (∀ k, 36 ≤ k → υ.1 91 k = ψ.1 91 k) → υ.2 = ψ.2 → ∃ υ' : ra_S, ra_D (rp_lay86, none, 99999, ra_m156) 2 [some (.ref 91), some (.int (nI 36)), some (.int (nI i))] [] υ = ra_V υ' ∧ (∀ c', c' ≠ 91 → υ'.1 c' = ψ.1 c') ∧ (∀ k, k < 36 → υ'.1 91 k = ψ.1 91 (36 + k)) ∧ υ'.2 = ψ.2 := by
    intro d
    induction d with
    | zero =>
      intro i υ hi h1 h2 h3 h4
      have : i = 36 := by omega
      subst this
      rw [p_156c_2, rz_inl (by omega) (by omega)]
      exact ⟨υ, rfl, h1, h2, h4⟩
    | succ d ih =>
      intro i υ hi h1 h2 h3 h4
      rw [p_156c_2, rz_il (by omega) (by omega), nI_add, rz_ig (by omega) (by omega), rz_ig (by omega) (by omega), nI_clamp (by omega), nI_clamp (by omega), nI_1]
      refine ih (i + 1) _ (by omega) (fun c' hc' => (ra_ui_1 c' hc').trans (h1 c' hc')) (fun k hk => ?_) (fun k hk => ?_) h4
      · rw [ra_ui_get]
        by_cases y : k = i
        · rw [if_pos ⟨rfl, y⟩, y]; exact h3 _ (by omega)
        · rw [if_neg (fun q => y q.2)]; exact h2 k (by omega)
      · rw [ra_ui_get, if_neg (fun q => by omega)]; exact h3 k hk
  obtain ⟨υ, e, q⟩ := loop 36 0 ψ (by omega) (fun _ _ => rfl) (fun k hk => absurd hk (Nat.not_lt_zero k)) (fun _ _ => rfl) rfl
  exact ⟨υ, by rw [p_156c]; exact e, q⟩
theorem rp_cp92 (ψ : ra_S) : ∃ υ : ra_S, ra_Cz rp_lay86 156 [.ref 92, .int (8 : Int32)] ψ = ra_V υ ∧ (∀ c', c' ≠ 92 → υ.1 c' = ψ.1 c') ∧ (∀ k, k < 8 → υ.1 92 k = ψ.1 92 (8 + k)) ∧ υ.2 = ψ.2 := by
  have loop : ∀ (d i : Nat) (υ : ra_S), i + d = 8 → (∀ c', c' ≠ 92 → υ.1 c' = ψ.1 c') → (∀ k, k < i → υ.1 92 k = ψ.1 92 (8 + k)) → (∀ k, 8 ≤ k → υ.1 92 k = ψ.1 92 k) → υ.2 = ψ.2 → ∃ υ' : ra_S, ra_D (rp_lay86, none, 99999, ra_m156) 2 [some (.ref 92), some (.int (nI 8)), some (.int (nI i))] [] υ = ra_V υ' ∧ (∀ c', c' ≠ 92 → υ'.1 c' = ψ.1 c') ∧ (∀ k, k < 8 → υ'.1 92 k = ψ.1 92 (8 + k)) ∧ υ'.2 = ψ.2 := by
    intro d
    induction d with
    | zero =>
      intro i υ hi h1 h2 h3 h4
      have : i = 8 := by omega
      subst this
      rw [p_156d_2, rz_inl (by omega) (by omega)]
      exact ⟨υ, rfl, h1, h2, h4⟩
    | succ d ih =>
      intro i υ hi h1 h2 h3 h4
      rw [p_156d_2, rz_il (by omega) (by omega), nI_add, rz_ig (by omega) (by omega), rz_ig (by omega) (by omega), nI_clamp (by omega), nI_clamp (by omega), nI_1]
      refine ih (i + 1) _ (by omega) (fun c' hc' => (ra_ui_1 c' hc').trans (h1 c' hc')) (fun k hk => ?_) (fun k hk => ?_) h4
      · rw [ra_ui_get]
        by_cases y : k = i
        · rw [if_pos ⟨rfl, y⟩, y]; exact h3 _ (by omega)
        · rw [if_neg (fun q => y q.2)]; exact h2 k (by omega)
      · rw [ra_ui_get, if_neg (fun q => by omega)]; exact h3 k hk
  obtain ⟨υ, e, q⟩ := loop 8 0 ψ (by omega) (fun _ _ => rfl) (fun k hk => absurd hk (Nat.not_lt_zero k)) (fun _ _ => rfl) rfl
  exact ⟨υ, by rw [p_156d]; exact e, q⟩
theorem rp_cp93 (ψ : ra_S) : ∃ υ : ra_S, ra_Cz rp_lay86 156 [.ref 93, .int (40 : Int32)] ψ = ra_V υ ∧ (∀ c', c' ≠ 93 → υ.1 c' = ψ.1 c') ∧ (∀ k, k < 40 → υ.1 93 k = ψ.1 93 (40 + k)) ∧ υ.2 = ψ.2 := by
  have loop : ∀ (d i : Nat) (υ : ra_S), i + d = 40 → (∀ c', c' ≠ 93 → υ.1 c' = ψ.1 c') → (∀ k, k < i → υ.1 93 k = ψ.1 93 (40 + k)) → (∀ k, 40 ≤ k → υ.1 93 k = ψ.1 93 k) → υ.2 = ψ.2 → ∃ υ' : ra_S, ra_D (rp_lay86, none, 99999, ra_m156) 2 [some (.ref 93), some (.int (nI 40)), some (.int (nI i))] [] υ = ra_V υ' ∧ (∀ c', c' ≠ 93 → υ'.1 c' = ψ.1 c') ∧ (∀ k, k < 40 → υ'.1 93 k = ψ.1 93 (40 + k)) ∧ υ'.2 = ψ.2 := by
    intro d
    induction d with
    | zero =>
      intro i υ hi h1 h2 h3 h4
      have : i = 40 := by omega
      subst this
      rw [p_156e_2, rz_inl (by omega) (by omega)]
      exact ⟨υ, rfl, h1, h2, h4⟩
    | succ d ih =>
      intro i υ hi h1 h2 h3 h4
      rw [p_156e_2, rz_il (by omega) (by omega), nI_add, rz_ig (by omega) (by omega), rz_ig (by omega) (by omega), nI_clamp (by omega), nI_clamp (by omega), nI_1]
      refine ih (i + 1) _ (by omega) (fun c' hc' => (ra_ui_1 c' hc').trans (h1 c' hc')) (fun k hk => ?_) (fun k hk => ?_) h4
      · rw [ra_ui_get]
        by_cases y : k = i
        · rw [if_pos ⟨rfl, y⟩, y]; exact h3 _ (by omega)
        · rw [if_neg (fun q => y q.2)]; exact h2 k (by omega)
      · rw [ra_ui_get, if_neg (fun q => by omega)]; exact h3 k hk
  obtain ⟨υ, e, q⟩ := loop 40 0 ψ (by omega) (fun _ _ => rfl) (fun k hk => absurd hk (Nat.not_lt_zero k)) (fun _ _ => rfl) rfl
  exact ⟨υ, by rw [p_156e]; exact e, q⟩
theorem rp_cp94 (ψ : ra_S) : ∃ υ : ra_S, ra_Cz rp_lay86 156 [.ref 94, .int (8 : Int32)] ψ = ra_V υ ∧ (∀ c', c' ≠ 94 → υ.1 c' = ψ.1 c') ∧ (∀ k, k < 8 → υ.1 94 k = ψ.1 94 (8 + k)) ∧ υ.2 = ψ.2 := by
  have loop : ∀ (d i : Nat) (υ : ra_S), i + d = 8 → (∀ c', c' ≠ 94 → υ.1 c' = ψ.1 c') → (∀ k, k < i → υ.1 94 k = ψ.1 94 (8 + k)) → (∀ k, 8 ≤ k → υ.1 94 k = ψ.1 94 k) → υ.2 = ψ.2 → ∃ υ' : ra_S, ra_D (rp_lay86, none, 99999, ra_m156) 2 [some (.ref 94), some (.int (nI 8)), some (.int (nI i))] [] υ = ra_V υ' ∧ (∀ c', c' ≠ 94 → υ'.1 c' = ψ.1 c') ∧ (∀ k, k < 8 → υ'.1 94 k = ψ.1 94 (8 + k)) ∧ υ'.2 = ψ.2 := by
    intro d
    induction d with
    | zero =>
      intro i υ hi h1 h2 h3 h4
      have : i = 8 := by omega
      subst this
      rw [p_156f_2, rz_inl (by omega) (by omega)]
      exact ⟨υ, rfl, h1, h2, h4⟩
    | succ d ih =>
      intro i υ hi h1 h2 h3 h4
      rw [p_156f_2, rz_il (by omega) (by omega), nI_add, rz_ig (by omega) (by omega), rz_ig (by omega) (by omega), nI_clamp (by omega), nI_clamp (by omega), nI_1]
      refine ih (i + 1) _ (by omega) (fun c' hc' => (ra_ui_1 c' hc').trans (h1 c' hc')) (fun k hk => ?_) (fun k hk => ?_) h4
      · rw [ra_ui_get]
        by_cases y : k = i
        · rw [if_pos ⟨rfl, y⟩, y]; exact h3 _ (by omega)
        · rw [if_neg (fun q => y q.2)]; exact h2 k (by omega)
      · rw [ra_ui_get, if_neg (fun q => by omega)]; exact h3 k hk
  obtain ⟨υ, e, q⟩ := loop 8 0 ψ (by omega) (fun _ _ => rfl) (fun k hk => absurd hk (Nat.not_lt_zero k)) (fun _ _ => rfl) rfl
  exact ⟨υ, by rw [p_156f]; exact e, q⟩
theorem rp_cp95 (ψ : ra_S) : ∃ υ : ra_S, ra_Cz rp_lay86 156 [.ref 95, .int (8 : Int32)] ψ = ra_V υ ∧ (∀ c', c' ≠ 95 → υ.1 c' = ψ.1 c') ∧ (∀ k, k < 8 → υ.1 95 k = ψ.1 95 (8 + k)) ∧ υ.2 = ψ.2 := by
  have loop : ∀ (d i : Nat) (υ : ra_S), i + d = 8 → (∀ c', c' ≠ 95 → υ.1 c' = ψ.1 c') → (∀ k, k < i → υ.1 95 k = ψ.1 95 (8 + k)) → (∀ k, 8 ≤ k → υ.1 95 k = ψ.1 95 k) → υ.2 = ψ.2 → ∃ υ' : ra_S, ra_D (rp_lay86, none, 99999, ra_m156) 2 [some (.ref 95), some (.int (nI 8)), some (.int (nI i))] [] υ = ra_V υ' ∧ (∀ c', c' ≠ 95 → υ'.1 c' = ψ.1 c') ∧ (∀ k, k < 8 → υ'.1 95 k = ψ.1 95 (8 + k)) ∧ υ'.2 = ψ.2 := by
    intro d
    induction d with
    | zero =>
      intro i υ hi h1 h2 h3 h4
      have : i = 8 := by omega
      subst this
      rw [p_156g_2, rz_inl (by omega) (by omega)]
      exact ⟨υ, rfl, h1, h2, h4⟩
    | succ d ih =>
      intro i υ hi h1 h2 h3 h4
      rw [p_156g_2, rz_il (by omega) (by omega), nI_add, rz_ig (by omega) (by omega), rz_ig (by omega) (by omega), nI_clamp (by omega), nI_clamp (by omega), nI_1]
      refine ih (i + 1) _ (by omega) (fun c' hc' => (ra_ui_1 c' hc').trans (h1 c' hc')) (fun k hk => ?_) (fun k hk => ?_) h4
      · rw [ra_ui_get]
        by_cases y : k = i
        · rw [if_pos ⟨rfl, y⟩, y]; exact h3 _ (by omega)
        · rw [if_neg (fun q => y q.2)]; exact h2 k (by omega)
      · rw [ra_ui_get, if_neg (fun q => by omega)]; exact h3 k hk
  obtain ⟨υ, e, q⟩ := loop 8 0 ψ (by omega) (fun _ _ => rfl) (fun k hk => absurd hk (Nat.not_lt_zero k)) (fun _ _ => rfl) rfl
  exact ⟨υ, by rw [p_156g]; exact e, q⟩
theorem rp_cp96 (ψ : ra_S) : ∃ υ : ra_S, ra_Cz rp_lay86 156 [.ref 96, .int (21 : Int32)] ψ = ra_V υ ∧ (∀ c', c' ≠ 96 → υ.1 c' = ψ.1 c') ∧ (∀ k, k < 21 → υ.1 96 k = ψ.1 96 (21 + k)) ∧ υ.2 = ψ.2 := by
  have loop : ∀ (d i : Nat) (υ : ra_S), i + d = 21 → (∀ c', c' ≠ 96 → υ.1 c' = ψ.1 c') → (∀ k, k < i → υ.1 96 k = ψ.1 96 (21 + k)) → (∀ k, 21 ≤ k → υ.1 96 k = ψ.1 96 k) → υ.2 = ψ.2 → ∃ υ' : ra_S, ra_D (rp_lay86, none, 99999, ra_m156) 2 [some (.ref 96), some (.int (nI 21)), some (.int (nI i))] [] υ = ra_V υ' ∧ (∀ c', c' ≠ 96 → υ'.1 c' = ψ.1 c') ∧ (∀ k, k < 21 → υ'.1 96 k = ψ.1 96 (21 + k)) ∧ υ'.2 = ψ.2 := by
    intro d
    induction d with
    | zero =>
      intro i υ hi h1 h2 h3 h4
      have : i = 21 := by omega
      subst this
      rw [p_156h_2, rz_inl (by omega) (by omega)]
      exact ⟨υ, rfl, h1, h2, h4⟩
    | succ d ih =>
      intro i υ hi h1 h2 h3 h4
      rw [p_156h_2, rz_il (by omega) (by omega), nI_add, rz_ig (by omega) (by omega), rz_ig (by omega) (by omega), nI_clamp (by omega), nI_clamp (by omega), nI_1]
      refine ih (i + 1) _ (by omega) (fun c' hc' => (ra_ui_1 c' hc').trans (h1 c' hc')) (fun k hk => ?_) (fun k hk => ?_) h4
      · rw [ra_ui_get]
        by_cases y : k = i
        · rw [if_pos ⟨rfl, y⟩, y]; exact h3 _ (by omega)
        · rw [if_neg (fun q => y q.2)]; exact h2 k (by omega)
      · rw [ra_ui_get, if_neg (fun q => by omega)]; exact h3 k hk
  obtain ⟨υ, e, q⟩ := loop 21 0 ψ (by omega) (fun _ _ => rfl) (fun k hk => absurd hk (Nat.not_lt_zero k)) (fun _ _ => rfl) rfl
  exact ⟨υ, by rw [p_156h]; exact e, q⟩
theorem rp_m_taken (ψ : ra_S) : ∃ υ : ra_S, ra_D (rp_lay86, none, 99999, ra_m157) 122 [some (.ref 86), some (.int (0 : Int32))] [] ψ = ra_V (ra_ui (ra_ui (ra_ui υ 86 47 0) 86 48 (-1)) 86 43 0) ∧ (∀ c, c ≠ 101 → υ.1 c = ψ.1 c) ∧ (∀ p, p < 8 → υ.1 101 p = 0) ∧ υ.2 = ψ.2 := by
  have loop : ∀ (d i : Nat) (υ : ra_S), i + d = 8 → (∀ c, c ≠ 101 → υ.1 c = ψ.1 c) → (∀ p, p < i → υ.1 101 p = 0) → υ.2 = ψ.2 → ∃ υ' : ra_S, ra_D (rp_lay86, none, 99999, ra_m157) 122 [some (.ref 86), some (.int (nI i))] [] υ = ra_V (ra_ui (ra_ui (ra_ui υ' 86 47 0) 86 48 (-1)) 86 43 0) ∧ (∀ c, c ≠ 101 → υ'.1 c = ψ.1 c) ∧ (∀ p, p < 8 → υ'.1 101 p = 0) ∧ υ'.2 = ψ.2 := by
    intro d
    induction d with
    | zero =>
      intro i υ hi h1 h2 h3
      have : i = 8 := by omega
      subst this
      rw [p_157_122, if_neg (show ¬ nI 8 < (8 : Int32) by decide)]
      exact ⟨υ, rfl, h1, h2, h3⟩
    | succ d ih =>
      intro i υ hi h1 h2 h3
      rw [p_157_122, if_pos (show nI i < (8 : Int32) from nI_lt (b := 8) (by omega) (by omega)), rz_ig (by omega) (by omega), nI_clamp (by omega), nI_1]
      refine ih (i + 1) _ (by omega) (fun c hc => (ra_ui_1 c hc).trans (h1 c hc)) (fun p hp => ?_) h3
      rw [ra_ui_get]
      by_cases y : p = i
      · rw [if_pos ⟨rfl, y⟩]
      · rw [if_neg (fun q => y q.2)]; exact h2 p (by omega)
  obtain ⟨υ, e, q⟩ := loop 8 0 ψ (by omega) (fun _ _ => rfl) (fun p hp => absurd hp (Nat.not_lt_zero p)) rfl
  exact ⟨υ, e, q⟩
theorem rp_m_keep (ψ : ra_S) : ∃ υ : ra_S, ra_Cz rp_lay86 157 [.ref 86] ψ = ra_V υ ∧ (∀ c, c ≠ 86 → ¬ (89 ≤ c ∧ c ≤ 96) → c ≠ 101 → υ.1 c = ψ.1 c) ∧ ((∀ k, k < 40 → υ.1 89 k = ψ.1 89 (40 + k)) ∧ (∀ k, k < 6 → υ.1 90 k = ψ.1 90 (6 + k)) ∧ (∀ k, k < 36 → υ.1 91 k = ψ.1 91 (36 + k)) ∧ (∀ k, k < 8 → υ.1 92 k = ψ.1 92 (8 + k)) ∧ (∀ k, k < 40 → υ.1 93 k = ψ.1 93 (40 + k)) ∧ (∀ k, k < 8 → υ.1 94 k = ψ.1 94 (8 + k)) ∧ (∀ k, k < 8 → υ.1 95 k = ψ.1 95 (8 + k)) ∧ (∀ k, k < 21 → υ.1 96 k = ψ.1 96 (21 + k))) ∧ (∀ p, p < 8 → υ.1 101 p = 0) ∧
    (υ.1 86 12 = ψ.1 86 18 ∧ υ.1 86 13 = ψ.1 86 19 ∧ υ.1 86 14 = ψ.1 86 20 ∧ υ.1 86 15 = ψ.1 86 21 ∧ υ.1 86 16 = ψ.1 86 22 ∧ υ.1 86 17 = ψ.1 86 23) ∧ (υ.1 86 47 = 0 ∧ υ.1 86 48 = -1 ∧ υ.1 86 43 = 0) ∧ (∀ k, ¬ (12 ≤ k ∧ k ≤ 17) → k ≠ 43 → k ≠ 47 → k ≠ 48 → υ.1 86 k = ψ.1 86 k) ∧ υ.2 = ψ.2 := by
  obtain ⟨s0, h0⟩ : ∃ s0 : ra_S, s0 = ra_ui (ra_ui (ra_ui (ra_ui (ra_ui (ra_ui ψ 86 12 (ψ.1 86 18)) 86 13 (ψ.1 86 19)) 86 14 (ψ.1 86 20)) 86 15 (ψ.1 86 21)) 86 16 (ψ.1 86 22)) 86 17 (ψ.1 86 23) := ⟨_, rfl⟩
  have z0 : ∀ c, c ≠ 86 → s0.1 c = ψ.1 c := fun c hc => by rw [h0, ra_ui_1 c hc, ra_ui_1 c hc, ra_ui_1 c hc, ra_ui_1 c hc, ra_ui_1 c hc, ra_ui_1 c hc]
  obtain ⟨s1, e1, f1, g1, l1⟩ := rp_cp89 s0
  obtain ⟨s2, e2, f2, g2, l2⟩ := rp_cp90 s1
  obtain ⟨s3, e3, f3, g3, l3⟩ := rp_cp91 s2
  obtain ⟨s4, e4, f4, g4, l4⟩ := rp_cp92 s3
  obtain ⟨s5, e5, f5, g5, l5⟩ := rp_cp93 s4
  obtain ⟨s6, e6, f6, g6, l6⟩ := rp_cp94 s5
  obtain ⟨s7, e7, f7, g7, l7⟩ := rp_cp95 s6
  obtain ⟨s8, e8, f8, g8, l8⟩ := rp_cp96 s7
  obtain ⟨s9, e9, f9, g9, l9⟩ := rp_m_taken s8
  have F : ∀ c, ¬ (89 ≤ c ∧ c ≤ 96) → c ≠ 101 → s9.1 c = s0.1 c := fun c h1 h2 => by rw [f9 c h2, f8 c (by omega), f7 c (by omega), f6 c (by omega), f5 c (by omega), f4 c (by omega), f3 c (by omega), f2 c (by omega), f1 c (by omega)]
  refine ⟨_, by rw [p_157, ← h0, e1, ra_kV, e2, ra_kV, e3, ra_kV, e4, ra_kV, e5, ra_kV, e6, ra_kV, e7, ra_kV, e8, ra_kV, e9], fun c c1 c2 c3 => ?_, ?_, fun p hp => ?_, ?_, ?_, fun k k1 k2 k3 k4 => ?_, ?_⟩
  · rw [ra_ui_1 c c1, ra_ui_1 c c1, ra_ui_1 c c1, F c c2 c3, z0 c c1]
  · refine ⟨fun k hk => ?_, fun k hk => ?_, fun k hk => ?_, fun k hk => ?_, fun k hk => ?_, fun k hk => ?_, fun k hk => ?_, fun k hk => ?_⟩
    · rw [ra_ui_1 89 (by decide), ra_ui_1 89 (by decide), ra_ui_1 89 (by decide), f9 89 (by decide), f8 89 (by decide), f7 89 (by decide), f6 89 (by decide), f5 89 (by decide), f4 89 (by decide), f3 89 (by decide), f2 89 (by decide), g1 k hk, z0 89 (by decide)]
    · rw [ra_ui_1 90 (by decide), ra_ui_1 90 (by decide), ra_ui_1 90 (by decide), f9 90 (by decide), f8 90 (by decide), f7 90 (by decide), f6 90 (by decide), f5 90 (by decide), f4 90 (by decide), f3 90 (by decide), g2 k hk, f1 90 (by decide), z0 90 (by decide)]
    · rw [ra_ui_1 91 (by decide), ra_ui_1 91 (by decide), ra_ui_1 91 (by decide), f9 91 (by decide), f8 91 (by decide), f7 91 (by decide), f6 91 (by decide), f5 91 (by decide), f4 91 (by decide), g3 k hk, f2 91 (by decide), f1 91 (by decide), z0 91 (by decide)]
    · rw [ra_ui_1 92 (by decide), ra_ui_1 92 (by decide), ra_ui_1 92 (by decide), f9 92 (by decide), f8 92 (by decide), f7 92 (by decide), f6 92 (by decide), f5 92 (by decide), g4 k hk, f3 92 (by decide), f2 92 (by decide), f1 92 (by decide), z0 92 (by decide)]
    · rw [ra_ui_1 93 (by decide), ra_ui_1 93 (by decide), ra_ui_1 93 (by decide), f9 93 (by decide), f8 93 (by decide), f7 93 (by decide), f6 93 (by decide), g5 k hk, f4 93 (by decide), f3 93 (by decide), f2 93 (by decide), f1 93 (by decide), z0 93 (by decide)]
    · rw [ra_ui_1 94 (by decide), ra_ui_1 94 (by decide), ra_ui_1 94 (by decide), f9 94 (by decide), f8 94 (by decide), f7 94 (by decide), g6 k hk, f5 94 (by decide), f4 94 (by decide), f3 94 (by decide), f2 94 (by decide), f1 94 (by decide), z0 94 (by decide)]
    · rw [ra_ui_1 95 (by decide), ra_ui_1 95 (by decide), ra_ui_1 95 (by decide), f9 95 (by decide), f8 95 (by decide), g7 k hk, f6 95 (by decide), f5 95 (by decide), f4 95 (by decide), f3 95 (by decide), f2 95 (by decide), f1 95 (by decide), z0 95 (by decide)]
    · rw [ra_ui_1 96 (by decide), ra_ui_1 96 (by decide), ra_ui_1 96 (by decide), f9 96 (by decide), g8 k hk, f7 96 (by decide), f6 96 (by decide), f5 96 (by decide), f4 96 (by decide), f3 96 (by decide), f2 96 (by decide), f1 96 (by decide), z0 96 (by decide)]
  · rw [ra_ui_1 101 (by decide), ra_ui_1 101 (by decide), ra_ui_1 101 (by decide)]; exact g9 p hp
  · simp only [ra_ui_get, F 86 (by decide) (by decide), h0, Nat.reduceEqDiff, and_false, and_true, true_and, if_true, if_false, reduceIte, and_self]
  · simp only [ra_ui_get, Nat.reduceEqDiff, and_false, and_true, true_and, if_true, if_false, reduceIte, and_self]
  · rw [ra_ui_get, if_neg (fun q => by omega), ra_ui_get, if_neg (fun q => by omega), ra_ui_get, if_neg (fun q => by omega), F 86 (by decide) (by decide), h0, ra_ui_get, if_neg (fun q => by omega), ra_ui_get, if_neg (fun q => by omega), ra_ui_get, if_neg (fun q => by omega), ra_ui_get, if_neg (fun q => by omega), ra_ui_get, if_neg (fun q => by omega), ra_ui_get, if_neg (fun q => by omega)]
  · show s9.2 = ψ.2
    rw [l9, l8, l7, l6, l5, l4, l3, l2, l1, h0]
    rfl
def rp_fT (pc : Nat) : Option ra_E := match pc with
  | 64 => some (.iconst 0, 1, 0, 0, 0, 0)
  | 65 => some (.istore_n 1, 1, 0, 0, 0, 0)
  | 66 => some (.iload_n 1, 1, 0, 0, 0, 0)
  | 67 => some (.bipush 11, 2, 0, 0, 11, 0)
  | 69 => some (.if_icmp .ge 39, 3, 108, 0, 0, 0)
  | 72 => some (.aload_n 0, 1, 0, 0, 0, 0)
  | 73 => some (.iconst 0, 1, 0, 0, 0, 0)
  | 74 => some (.putfield 33, 3, 10, 7, 0, 0)
  | 77 => some (.aload_n 0, 1, 0, 0, 0, 0)
  | 78 => some (.invokevirtual 36, 3, 75, 0, 0, 0)
  | 81 => some (.pop, 1, 0, 0, 0, 0)
  | 82 => some (.aload_n 0, 1, 0, 0, 0, 0)
  | 83 => some (.getfield 15, 3, 10, 1, 0, 0)
  | 86 => some (.iload_n 1, 1, 0, 0, 0, 0)
  | 87 => some (.aload_n 0, 1, 0, 0, 0, 0)
  | 88 => some (.getfield 33, 3, 10, 7, 0, 0)
  | 91 => some (.iastore, 1, 0, 0, 0, 0)
  | 92 => some (.aload_n 0, 1, 0, 0, 0, 0)
  | 93 => some (.dup, 1, 0, 0, 0, 0)
  | 94 => some (.getfield 39, 3, 10, 4, 0, 0)
  | 97 => some (.iconst 1, 1, 0, 0, 1, 0)
  | 98 => some (.iadd, 1, 0, 0, 0, 0)
  | 99 => some (.putfield 39, 3, 10, 4, 0, 0)
  | 102 => some (.iinc 1 1, 3, 0, 0, 1, 0)
  | 105 => some (.goto (-39), 3, 66, 0, 0, 0)
  | 108 => some (.return_, 1, 0, 0, 0, 0)
  | _ => none
def rp_mT : ra_M := (10, yX10_init, cX10_init, (2, none), (false, 0), (1, 21), rp_fT)
theorem rp_mT_ok : ra_mok rp_mT := ra_mok_of (n := 109) (by decide +kernel) (by decide +kernel) (fun pc h => by
  show rp_fT pc = none
  unfold rp_fT
  split <;> first | rfl | omega)
set_option maxRecDepth 100000 in
theorem p_T_64 (o1 : Option Value) (σ : ra_S) : ra_D (rp_lay2, none, 99999, rp_mT) 64 [some (.ref 2), o1] [] σ = ra_D (rp_lay2, none, 99999, rp_mT) 66 [some (.ref 2), some (.int (0 : Int32))] [] σ :=
  ra_mic 2 (fun f => f (rp_lay2, none, 99999, rp_mT) 66 [some (.ref 2), some (.int (0 : Int32))] [] σ) (fun f => rfl) (ra_Lm.r0 _ _ _ _ _)
set_option maxRecDepth 100000 in
theorem p_T_66 (v1 : Int32) (σ : ra_S) : ra_D (rp_lay2, none, 99999, rp_mT) 66 [some (.ref 2), some (.int v1)] [] σ = (if v1 < (11 : Int32) then ra_D (rp_lay2, none, 99999, rp_mT) 72 [some (.ref 2), some (.int v1)] [] σ else ra_D (rp_lay2, none, 99999, rp_mT) 108 [some (.ref 2), some (.int v1)] [] σ) :=
  ra_mic 3 (fun f => (if v1 < (11 : Int32) then f (rp_lay2, none, 99999, rp_mT) 72 [some (.ref 2), some (.int v1)] [] σ else f (rp_lay2, none, 99999, rp_mT) 108 [some (.ref 2), some (.int v1)] [] σ)) (fun f => rfl) (ra_Lm.ite (ra_Lm.r0 _ _ _ _ _) (ra_Lm.r0 _ _ _ _ _))
set_option maxRecDepth 100000 in
theorem p_T_72 (v1 : Int32) (σ : ra_S) : ra_D (rp_lay2, none, 99999, rp_mT) 72 [some (.ref 2), some (.int v1)] [] σ = (ra_Cz rp_lay2 75 [.ref 2] (ra_ui σ 2 7 (0 : Int32))).bind (ra_ki fun x s1 => ra_D (rp_lay2, none, 99999, rp_mT) 81 [some (.ref 2), some (.int v1)] [.int x] s1) :=
  ra_mic 5 (fun f => (f (rp_lay2, none, 99999, ra_mt 75) 0 (ra_lo0 (ra_mt 75).2.2.2.1.1 [.ref 2]) [] (ra_ui σ 2 7 (0 : Int32))).bind (ra_ki fun x s1 => f (rp_lay2, none, 99999, rp_mT) 81 [some (.ref 2), some (.int v1)] [.int x] s1)) (fun f => rfl) (ra_Lm.ki (ra_Lm.c0 _ _ _ _) (fun x s1 => (ra_Lm.r0 _ _ _ _ _)))
set_option maxRecDepth 100000 in
theorem p_T_81 (v1 x : Int32) (σ : ra_S) : ra_D (rp_lay2, none, 99999, rp_mT) 81 [some (.ref 2), some (.int v1)] [.int x] σ = (if 0 ≤ v1.toInt ∧ v1.toInt < 11 then ra_D (rp_lay2, none, 99999, rp_mT) 92 [some (.ref 2), some (.int v1)] [] (ra_ui σ 4 v1.toNatClampNeg (σ.1 2 7)) else none) :=
  ra_mic 7 (fun f => (if 0 ≤ v1.toInt ∧ v1.toInt < 11 then f (rp_lay2, none, 99999, rp_mT) 92 [some (.ref 2), some (.int v1)] [] (ra_ui σ 4 v1.toNatClampNeg (σ.1 2 7)) else none)) (fun f => rfl) (ra_Lm.ite (ra_Lm.r0 _ _ _ _ _) (ra_Lm.const _))
set_option maxRecDepth 100000 in
theorem p_T_92 (v1 : Int32) (σ : ra_S) : ra_D (rp_lay2, none, 99999, rp_mT) 92 [some (.ref 2), some (.int v1)] [] σ = ra_D (rp_lay2, none, 99999, rp_mT) 66 [some (.ref 2), some (.int (v1 + (1 : Int32)))] [] (ra_ui σ 2 4 ((σ.1 2 4) + (1 : Int32))) :=
  ra_mic 8 (fun f => f (rp_lay2, none, 99999, rp_mT) 66 [some (.ref 2), some (.int (v1 + (1 : Int32)))] [] (ra_ui σ 2 4 ((σ.1 2 4) + (1 : Int32)))) (fun f => rfl) (ra_Lm.r0 _ _ _ _ _)
set_option maxRecDepth 100000 in
theorem p_T_108 (v1 : Int32) (σ : ra_S) : ra_D (rp_lay2, none, 99999, rp_mT) 108 [some (.ref 2), some (.int v1)] [] σ = some (.inl none, σ) :=
  ra_mic 1 (fun f => some (.inl none, σ)) (fun f => rfl) (ra_Lm.const _)
/-- the text's letters as whole numbers, the words' places and lengths -/
def rp_bn : List Nat := [115, 116, 105, 99, 107, 32, 98, 101, 97, 116, 32, 116, 105, 109, 101, 115, 32, 112, 97, 117, 115, 101, 32, 108, 97, 119, 32, 97, 104, 101, 97, 100, 32, 112, 108, 97, 121, 101, 114, 32, 115, 101, 101, 115, 32, 104, 101, 97, 114, 115, 32, 100, 97, 114, 101, 115, 32, 119, 114, 111, 110, 103, 32]
def rp_t (i : Nat) : Nat := rp_bn.getD i 0
def rp_wp : List Nat := [0, 6, 11, 17, 23, 27, 33, 40, 45, 51, 57, 63]
theorem rp_wpk : ∀ w : Fin 11, rz_run (rz_isL rp_t) (63 - rp_wp.getD w.val 0) (rp_wp.getD w.val 0) + 1 = rp_wp.getD (w.val + 1) 0 ∧ nI (rz_pk rp_t (rp_wp.getD w.val 0) (rz_run (rz_isL rp_t) (63 - rp_wp.getD w.val 0) (rp_wp.getD w.val 0) - rp_wp.getD w.val 0)) = rz_words.getD w.val 0 ∧ rp_wp.getD w.val 0 ≤ 62 ∧ rp_wp.getD (w.val + 1) 0 ≤ 63 := by decide +kernel
theorem rp_t_nI : ∀ i : Fin 63, rp_byt.getD i.val 0 &&& 255 = nI (rp_t i.val) ∧ rp_t i.val ≤ 255 := by decide +kernel
theorem rp_words : ∀ (d w : Nat) (τ : ra_S), w + d = 11 → rp_Tc rp_t 63 (rp_wp.getD w 0) τ → (∀ i, i < w → τ.1 4 i = rz_words.getD i 0) → ∃ υ : ra_S, ra_D (rp_lay2, none, 99999, rp_mT) 66 [some (.ref 2), some (.int (nI w))] [] τ = some (.inl none, υ) ∧ υ.1 2 2 = τ.1 2 2 ∧ (∀ i, i < 11 → υ.1 4 i = rz_words.getD i 0) := by
  intro d
  induction d with
  | zero =>
    intro w τ hw h1 h2
    have hw : w = 11 := by omega
    subst hw
    rw [p_T_66, if_neg (by decide), p_T_108]
    exact ⟨τ, rfl, rfl, h2⟩
  | succ d ih =>
    intro w τ hw h1 h2
    obtain ⟨a1, a2, a3, a4⟩ := rp_wpk ⟨w, by omega⟩
    dsimp only at a1 a2 a3 a4
    generalize rp_wp.getD w 0 = a at a1 a2 a3 h1
    have h0 : rp_Tc rp_t 63 (a + 0) (ra_ui τ 2 7 (0 : Int32)) := rp_Tc_ui h1 (by omega)
    obtain ⟨υ, e, g1, g2, g3, g4⟩ := rp_c_let (t := rp_t) (N := 63) a (63 - a) 0 (by omega) (ra_ui τ 2 7 (0 : Int32)) h0 (by rw [ra_ui_get, if_pos ⟨rfl, rfl⟩, rz_pk0]; rfl)
    rw [Nat.add_zero] at e g1 g3
    have e : ra_D (rp_lay2, none, 99999, ra_m75) 2 [some (.ref 2), some (.int (0 : Int32))] [] (ra_ui τ 2 7 (0 : Int32)) = some (.inl (some (.int (nI (rz_run (rz_isL rp_t) (63 - a) a - a)))), υ) := e
    have hA : rp_Tc rp_t 63 (rp_wp.getD (w + 1) 0) (ra_ui (ra_ui υ 4 w (rz_words.getD w 0)) 2 4 (nI (rp_wp.getD (w + 1) 0))) := by
      obtain ⟨b1, b2, b3, b4, b5, b6⟩ := g1
      exact ⟨by rw [ra_ui_get, if_neg (fun q => by omega), ra_ui_1 2 (by decide)]; exact b1, b2, by rw [ra_ui_get, if_pos ⟨rfl, rfl⟩], a4, fun i hi => by rw [ra_ui_1 3 (by decide), ra_ui_1 3 (by decide)]; exact b5 i hi, trivial⟩
    have hB : ∀ i, i < w + 1 → (ra_ui (ra_ui υ 4 w (rz_words.getD w 0)) 2 4 (nI (rp_wp.getD (w + 1) 0))).1 4 i = rz_words.getD i 0 := by
      intro i hi
      rw [ra_ui_1 4 (by decide), ra_ui_get]
      by_cases y : i = w
      · rw [if_pos ⟨rfl, y⟩, y]
      · rw [if_neg (fun q => y q.2), g2.1 4 (by decide), ra_ui_1 4 (by decide)]
        exact h2 i (by omega)
    obtain ⟨υ', e', k1, k2⟩ := ih (w + 1) _ (by omega) hA hB
    refine ⟨υ', ?_, ?_, k2⟩
    · rw [p_T_66, if_pos (show nI w < (11 : Int32) from nI_lt (b := 11) (by omega) (by omega)), p_T_72, p_75, e, ra_kI, p_T_81, rz_ig (by omega) (by omega), nI_clamp (by omega), p_T_92, nI_1, g3, a2, ra_ui_get, if_neg (fun q => by omega), g1.2.2.1, nI_1, a1]
      exact e'
    · rw [k1, ra_ui_get, if_neg (fun q => by omega), ra_ui_1 2 (by decide), g2.2.1 2 (Or.inl (by decide)), ra_ui_get, if_neg (fun q => by omega)]
def rp_fM (pc : Nat) : Option ra_E := match pc with
  | 629 => some (.aload_n 0, 1, 0, 0, 0, 0)
  | 630 => some (.invokevirtual 111, 3, 155, 0, 0, 0)
  | 633 => some (.aload_n 0, 1, 0, 0, 0, 0)
  | 634 => some (.invokevirtual 114, 3, 157, 0, 0, 0)
  | 637 => some (.return_, 1, 0, 0, 0, 0)
  | _ => none
def rp_mM : ra_M := (12, yX12_init, cX12_init, (1, none), (false, 0), (2, 43), rp_fM)
theorem rp_mM_ok : ra_mok rp_mM := ra_mok_of (n := 638) (by decide +kernel) (by decide +kernel) (fun pc h => by
  show rp_fM pc = none
  unfold rp_fM
  split <;> first | rfl | omega)
set_option maxRecDepth 100000 in
theorem p_M_629 (σ : ra_S) : ra_D (rp_lay86, none, 99999, rp_mM) 629 [some (.ref 86)] [] σ = (ra_Cz rp_lay86 155 [.ref 86] σ).bind (ra_kv fun s1 => ra_D (rp_lay86, none, 99999, rp_mM) 633 [some (.ref 86)] [] s1) :=
  ra_mic 2 (fun f => (f (rp_lay86, none, 99999, ra_mt 155) 0 (ra_lo0 (ra_mt 155).2.2.2.1.1 [.ref 86]) [] σ).bind (ra_kv fun s1 => f (rp_lay86, none, 99999, rp_mM) 633 [some (.ref 86)] [] s1)) (fun f => rfl) (ra_Lm.kv (ra_Lm.c0 _ _ _ _) (fun s1 => (ra_Lm.r0 _ _ _ _ _)))
set_option maxRecDepth 100000 in
theorem p_M_633 (σ : ra_S) : ra_D (rp_lay86, none, 99999, rp_mM) 633 [some (.ref 86)] [] σ = (ra_Cz rp_lay86 157 [.ref 86] σ).bind (ra_kv fun s1 => ra_D (rp_lay86, none, 99999, rp_mM) 637 [some (.ref 86)] [] s1) :=
  ra_mic 2 (fun f => (f (rp_lay86, none, 99999, ra_mt 157) 0 (ra_lo0 (ra_mt 157).2.2.2.1.1 [.ref 86]) [] σ).bind (ra_kv fun s1 => f (rp_lay86, none, 99999, rp_mM) 637 [some (.ref 86)] [] s1)) (fun f => rfl) (ra_Lm.kv (ra_Lm.c0 _ _ _ _) (fun s1 => (ra_Lm.r0 _ _ _ _ _)))
set_option maxRecDepth 100000 in
theorem p_M_637 (σ : ra_S) : ra_D (rp_lay86, none, 99999, rp_mM) 637 [some (.ref 86)] [] σ = some (.inl none, σ) :=
  ra_mic 1 (fun f => some (.inl none, σ)) (fun f => rfl) (ra_Lm.const _)
