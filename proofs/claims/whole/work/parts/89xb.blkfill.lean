set_option maxRecDepth 100000
set_option maxHeartbeats 4000000
def br_stops_4 : List Nat := [0, 8]
theorem rb_Law_clear_0 {d n : Nat} {Q : br_Q} {I : Nat → Nat → Int32} {L : Nat → Nat → Int64} {r0 : Nat}
    (H : (br_S0 n r0 = (0, 2)) ∧ (br_r d 5 0 [some (.ref (br_R0 r0 0)), some (.int (nI 0)), none, none] [] (br_hp n I L) (fun v h => br_r (d + 1) 4 8 [some (.ref r0)] (v.toList ++ []) (br_bk h) Q))) :
    br_r (d + 1) 4 0 [some (.ref r0)] [] (br_hp n I L) Q := br_run_blk br_stops_4 400 ⟨H.1, H.2⟩
theorem rb_Law_clear_8 {d n : Nat} {Q : br_Q} {I : Nat → Nat → Int32} {L : Nat → Nat → Int64} {r0 : Nat}
    (H : (br_S0 n r0 = (0, 2)) ∧ (((br_S0 n (br_R0 r0 0)).1 = 1) ∧ (8 ≤ br_R0 r0 0) ∧ (vp_in (nI 17) (br_S0 n (br_R0 r0 0)).2) ∧ ((br_S0 n r0 = (0, 2)) ∧ (Q none (br_hp n (br_u (br_u I (br_R0 r0 0) 17 (nI 200)) r0 1 (nI 0)) L))))) :
    br_r (d + 1) 4 8 [some (.ref r0)] [] (br_hp n I L) Q := br_run_blk br_stops_4 400 ⟨H.1, ⟨H.2.1, H.2.2.1, H.2.2.2.1, ⟨H.2.2.2.2.1, ⟨rfl, H.2.2.2.2.2⟩⟩⟩⟩
def br_stops_5 : List Nat := [0, 5]
theorem rb_Arrays_fill_aII_0 {d n : Nat} {Q : br_Q} {I : Nat → Nat → Int32} {L : Nat → Nat → Int64} {r0 : Nat} {x1 : Int32} {z2 : Option Value} {z3 : Option Value}
    (H : (br_ar (br_S0 n r0).1 = true) ∧ (br_r d 5 5 [some (.ref r0), some (.int x1), some (.int (nI 0)), some (.int (Int32.ofNat (br_S0 n r0).2))] [] (br_hp n I L) Q)) :
    br_r d 5 0 [some (.ref r0), some (.int x1), z2, z3] [] (br_hp n I L) Q := br_run_blk br_stops_5 400 ⟨H.1, H.2⟩
theorem rb_Arrays_fill_aII_5 {d n : Nat} {Q : br_Q} {I : Nat → Nat → Int32} {L : Nat → Nat → Int64} {r0 : Nat} {x1 : Int32} {x2 : Int32} {x3 : Int32}
    (H : ((x3 ≤ x2) → (Q none (br_hp n I L))) ∧ ((¬ (x3 ≤ x2)) → (((br_S0 n r0).1 = 1) ∧ (8 ≤ r0) ∧ (vp_in x2 (br_S0 n r0).2) ∧ (br_r d 5 5 [some (.ref r0), some (.int x1), some (.int (x2 + (nI 1))), some (.int x3)] [] (br_hp n (br_u I r0 x2.toNatClampNeg x1) L) Q)))) :
    br_r d 5 5 [some (.ref r0), some (.int x1), some (.int x2), some (.int x3)] [] (br_hp n I L) Q := br_run_blk br_stops_5 400 ⟨fun z1 => ⟨rfl, (H.1 z1)⟩, fun z1 => ⟨(H.2 z1).1, (H.2 z1).2.1, (H.2 z1).2.2.1, (H.2 z1).2.2.2⟩⟩
