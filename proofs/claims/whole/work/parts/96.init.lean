set_option maxRecDepth 100000
set_option maxHeartbeats 4000000
theorem br_law_end {n : Nat} {xs : Nat → Int32} (hn : n ≤ 3072) : br_run br_cd 1000 300 0 [some (.ref 1), none, none, none] [] (br_w0 n xs) (fun v _ => v = some (.int (nI 1))) :=
  br_law_0 (bl_loop (d := 919) hn (n / 6) 0 _ _ (by omega) (by omega) br_Inv_0)
