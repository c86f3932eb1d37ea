-- ===== all the calls, but text and look =====
theorem rz_ops : ∀ j, rz_op j
  | 0 => fun _ a1 a2 a3 a4 a5 h => rz_feed h a1 a2 a3 a4 a5
  | 1 => trivial
  | 2 => fun _ a1 h => rz_fault h a1
  | 3 => fun _ a1 a2 h => rz_named h a1 a2
  | 4 => trivial
  | 5 => fun _ a1 a2 h => rz_law h a1 a2
  | 6 => fun _ a1 h => rz_begin h a1
  | 7 => fun _ a1 a2 h => rz_way h a1 a2
  | 8 => fun _ a1 a2 h => rz_entry h a1 a2
  | 9 => fun _ a1 h => rz_spread h a1
  | 10 => fun _ a1 h => rz_lag h a1
  | 11 => fun _ a1 h => rz_verdict h a1
  | 12 => fun _ a1 a2 h => rz_guilty h a1 a2
  | 13 => fun _ a1 a2 h => rz_take h a1 a2
  | 14 => fun _ a1 a2 a3 h => rz_seat h a1 a2 a3
  | 15 => fun _ h => rz_undoC h
  | 16 => fun _ a1 a2 a3 a4 h => rz_sound h a1 a2 a3 a4
  | 17 => fun _ a1 a2 a3 a4 h => rz_together h a1 a2 a3 a4
  | 18 => fun _ a1 a2 a3 h => rz_where h a1 a2 a3
  | 19 => fun _ a1 a2 a3 h => rz_shift h a1 a2 a3
  | 20 => fun _ a1 a2 a3 a4 a5 h => rz_moved h a1 a2 a3 a4 a5
  | 21 => fun _ a1 a2 a3 a4 h => rz_farC h a1 a2 a3 a4
  | 22 => fun _ a1 a2 a3 h => rz_endsC h a1 a2 a3
  | 23 => fun _ a1 a2 a3 a4 a5 h => rz_goesC h a1 a2 a3 a4 a5
  | 24 => fun _ a1 h => rz_by h a1
  | 25 => fun _ a1 a2 a3 h => rz_film h a1 a2 a3
  | 26 => fun _ a1 h => rz_strike h a1
  | 27 => fun _ a1 h => rz_known h a1
  | 28 => fun _ a1 a2 h => rz_fits h a1 a2
  | 29 => fun _ a1 a2 a3 h => rz_next h a1 a2 a3
  | 30 => fun _ a1 a2 a3 a4 a5 h => rz_order h a1 a2 a3 a4 a5
  | 31 => fun _ a1 a2 h => rz_pause h a1 a2
  | 32 => fun _ a1 a2 a3 h => rz_two h a1 a2 a3
  | 33 => fun _ a1 h => rz_clear h a1
  | 34 => fun _ a1 a2 a3 a4 h => rz_draws h a1 a2 a3 a4
  | 35 => fun _ a1 h => rz_count h a1
  | _ + 36 => trivial
