-- ===== text: a line; written by wip/whole/gen71.py =====
theorem rz_pjoin {r : Option ra_R} {υ : ra_S} {b : Int32} (hb : b = 0 ∨ b = 1) (h : r.bind (ra_ki fun x s => if x = (0 : Int32) then ra_I 0 s else ra_C 31 [.ref 1, .ref 35] s) = ra_I b υ) (o1 o4 : Option Value) (v3 : Int32) :
    r.bind (ra_ki fun x14 s13 => (if x14 = (0 : Int32) then ra_D (ra_lay, none, 99999, ra_m24) 158 [some (.ref 1), o1, some (.ref 29), some (.int v3), o4] [] s13 else (ra_C 31 [.ref 1, .ref 35] s13).bind (ra_ki fun x16 s15 => (if x16 = (0 : Int32) then ra_D (ra_lay, none, 99999, ra_m24) 158 [some (.ref 1), o1, some (.ref 29), some (.int v3), o4] [] s15 else ra_D (ra_lay, none, 99999, ra_m24) 159 [some (.ref 1), o1, some (.ref 29), some (.int v3), o4] [.int 1] s15)))) = ra_D (ra_lay, none, 99999, ra_m24) 181 [some (.ref 1), o1, some (.ref 29), some (.int v3), some (.int b)] [] υ := by
  match r, h with
  | none, h => cases h
  | some (.inl none, s), h => cases h
  | some (.inr l, s), h => cases h
  | some (.inl (some v), s), h =>
    cases v with
    | int x =>
      rw [ra_kI] at h ⊢
      by_cases z : x = 0
      · rw [if_pos z] at h ⊢
        cases h
        rw [e_24_158, e_24_159]
      · rw [if_neg z] at h ⊢
        rw [h, ra_kI]
        rcases hb with rfl | rfl
        · rw [rz_00, e_24_158, e_24_159]
        · rw [rz_10, e_24_159]
    | _ => cases h
