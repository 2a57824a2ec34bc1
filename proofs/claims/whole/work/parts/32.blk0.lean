set_option maxRecDepth 100000
set_option maxHeartbeats 4000000
def br_stops_15 : List Nat := [0, 7, 15, 33, 43]
theorem rb_A_room_0 {d n : Nat} {Q : br_Q} {I : Nat → Nat → Int32} {L : Nat → Nat → Int64} {x1 : Int32} {x2 : Int32}
    (H : br_r d 16 0 [some (.int x1), some (.int (nI 0)), some (.int (nI 20))] [] (br_hp n I L) (fun v h => br_r (d + 1) 15 7 [some (.ref 8), some (.int x1), some (.int x2)] (v.toList ++ []) (br_bk h) Q)) :
    br_r (d + 1) 15 0 [some (.ref 8), some (.int x1), some (.int x2)] [] (br_hp n I L) Q := br_run_blk br_stops_15 400 H
theorem rb_A_room_7 {d n : Nat} {Q : br_Q} {I : Nat → Nat → Int32} {L : Nat → Nat → Int64} {x1 : Int32} {x2 : Int32} {s0 : Int32}
    (H : ((s0 = (nI 0)) → ((((I 9 2) < (nI 18)) → (br_r d 18 0 [some (.ref 9), some (.int x1), some (.int x2)] [] (br_hp n I L) (fun v h => br_r (d + 1) 15 43 [some (.ref 8), some (.int x1), some (.int x2)] (v.toList ++ []) (br_bk h) Q))) ∧ ((¬ ((I 9 2) < (nI 18))) → (br_r d 17 0 [some (.ref 8), some (.int (nI 4))] [] (br_hp n I L) (fun v h => br_r (d + 1) 15 33 [some (.ref 8), some (.int x1), some (.int x2)] (v.toList ++ []) (br_bk h) Q))))) ∧ ((¬ (s0 = (nI 0))) → (br_r d 17 0 [some (.ref 8), some (.int (nI 3))] [] (br_hp n I L) (fun v h => br_r (d + 1) 15 15 [some (.ref 8), some (.int x1), some (.int x2)] (v.toList ++ []) (br_bk h) Q)))) :
    br_r (d + 1) 15 7 [some (.ref 8), some (.int x1), some (.int x2)] [(.int s0)] (br_hp n I L) Q := br_run_blk br_stops_15 400 ⟨fun z2 => ⟨rfl, ⟨rfl, ⟨fun z1 => ⟨rfl, ⟨rfl, ((H.1 z2).1 z1)⟩⟩, fun z1 => ⟨rfl, ((H.1 z2).2 z1)⟩⟩⟩⟩, fun z2 => ⟨rfl, (H.2 z2)⟩⟩
theorem rb_A_room_15 {d n : Nat} {Q : br_Q} {I : Nat → Nat → Int32} {L : Nat → Nat → Int64} {z0 : Option Value} {z1 : Option Value} {z2 : Option Value} {s0 : Int32}
    (H : Q (some (.int s0)) (br_hp n I L)) :
    br_r (d + 1) 15 15 [z0, z1, z2] [(.int s0)] (br_hp n I L) Q := br_run_blk br_stops_15 400 ⟨rfl, H⟩
theorem rb_A_room_33 {d n : Nat} {Q : br_Q} {I : Nat → Nat → Int32} {L : Nat → Nat → Int64} {z0 : Option Value} {z1 : Option Value} {z2 : Option Value} {s0 : Int32}
    (H : Q (some (.int s0)) (br_hp n I L)) :
    br_r (d + 1) 15 33 [z0, z1, z2] [(.int s0)] (br_hp n I L) Q := br_run_blk br_stops_15 400 ⟨rfl, H⟩
theorem rb_A_room_43 {d n : Nat} {Q : br_Q} {I : Nat → Nat → Int32} {L : Nat → Nat → Int64} {z0 : Option Value} {z1 : Option Value} {z2 : Option Value} {s0 : Int32}
    (H : Q (some (.int s0)) (br_hp n I L)) :
    br_r (d + 1) 15 43 [z0, z1, z2] [(.int s0)] (br_hp n I L) Q := br_run_blk br_stops_15 400 ⟨rfl, H⟩
def br_stops_16 : List Nat := [0]
theorem rb_A_outside_0 {d n : Nat} {Q : br_Q} {I : Nat → Nat → Int32} {L : Nat → Nat → Int64} {x0 : Int32} {x1 : Int32} {x2 : Int32}
    (H : ((x0 < x1) → (Q (some (.int (nI 1))) (br_hp n I L))) ∧ ((¬ (x0 < x1)) → (((x0 ≤ x2) → (Q (some (.int (nI 0))) (br_hp n I L))) ∧ ((¬ (x0 ≤ x2)) → (Q (some (.int (nI 1))) (br_hp n I L)))))) :
    br_r d 16 0 [some (.int x0), some (.int x1), some (.int x2)] [] (br_hp n I L) Q := br_run_blk br_stops_16 400 ⟨fun z2 => ⟨rfl, Or.inr rfl, (H.1 z2)⟩, fun z2 => ⟨fun z1 => ⟨rfl, Or.inl rfl, ((H.2 z2).1 z1)⟩, fun z1 => ⟨rfl, Or.inr rfl, ((H.2 z2).2 z1)⟩⟩⟩
def br_stops_17 : List Nat := [0]
theorem rb_A_refuse_0 {d n : Nat} {Q : br_Q} {I : Nat → Nat → Int32} {L : Nat → Nat → Int64} {x1 : Int32}
    (H : ((x1 < (nI 0)) → (Q (some (.int (-x1))) (br_hp n I L))) ∧ ((¬ (x1 < (nI 0))) → ((((nI 8) ≤ x1) → (Q (some (.int (-x1))) (br_hp n I L))) ∧ ((¬ ((nI 8) ≤ x1)) → ((vp_in x1 8) ∧ ((vp_in x1 8) ∧ (Q (some (.int (-x1))) (br_hp n (br_u I 82 x1.toNatClampNeg ((I 82 x1.toNatClampNeg) + (nI 1))) L)))))))) :
    br_r d 17 0 [some (.ref 8), some (.int x1)] [] (br_hp n I L) Q := br_run_blk br_stops_17 400 ⟨fun z2 => ⟨rfl, (H.1 z2)⟩, fun z2 => ⟨rfl, ⟨rfl, ⟨fun z1 => ⟨rfl, ((H.2 z2).1 z1)⟩, fun z1 => ⟨rfl, ⟨rfl, ((H.2 z2).2 z1).1, ⟨rfl, (Nat.le_of_ble_eq_true rfl), ((H.2 z2).2 z1).2.1, ⟨rfl, ((H.2 z2).2 z1).2.2⟩⟩⟩⟩⟩⟩⟩⟩
def br_stops_18 : List Nat := [0]
theorem rb_World_addRoom_0 {d n : Nat} {Q : br_Q} {I : Nat → Nat → Int32} {L : Nat → Nat → Int64} {x1 : Int32} {x2 : Int32}
    (H : (((I 9 2) < (nI 18)) → ((vp_in (I 9 2) 18) ∧ ((vp_in ((br_u I 10 (I 9 2).toNatClampNeg x1) 9 2) 18) ∧ (Q (some (.int (((br_u (br_u (br_u I 10 (I 9 2).toNatClampNeg x1) 11 ((br_u I 10 (I 9 2).toNatClampNeg x1) 9 2).toNatClampNeg (vp_nar .boolean x2)) 9 2 (((br_u (br_u I 10 (I 9 2).toNatClampNeg x1) 11 ((br_u I 10 (I 9 2).toNatClampNeg x1) 9 2).toNatClampNeg (vp_nar .boolean x2)) 9 2) + (nI 1))) 9 2) - (nI 1)))) (br_hp n (br_u (br_u (br_u I 10 (I 9 2).toNatClampNeg x1) 11 ((br_u I 10 (I 9 2).toNatClampNeg x1) 9 2).toNatClampNeg (vp_nar .boolean x2)) 9 2 (((br_u (br_u I 10 (I 9 2).toNatClampNeg x1) 11 ((br_u I 10 (I 9 2).toNatClampNeg x1) 9 2).toNatClampNeg (vp_nar .boolean x2)) 9 2) + (nI 1))) L))))) ∧ ((¬ ((I 9 2) < (nI 18))) → (Q (some (.int (-(nI 1)))) (br_hp n I L)))) :
    br_r d 18 0 [some (.ref 9), some (.int x1), some (.int x2)] [] (br_hp n I L) Q := br_run_blk br_stops_18 400 ⟨rfl, ⟨fun z1 => ⟨rfl, ⟨rfl, ⟨rfl, (Nat.le_of_ble_eq_true rfl), (H.1 z1).1, ⟨rfl, ⟨rfl, ⟨(Nat.le_of_ble_eq_true rfl), (H.1 z1).2.1, Or.inl ⟨rfl, ⟨rfl, ⟨rfl, ⟨rfl, ⟨rfl, (H.1 z1).2.2⟩⟩⟩⟩⟩⟩⟩⟩⟩⟩⟩, fun z1 => ⟨rfl, (H.2 z1)⟩⟩⟩
def br_stops_19 : List Nat := [0, 14, 22, 30, 41, 49, 67, 78]
theorem rb_A_child_0 {d n : Nat} {Q : br_Q} {I : Nat → Nat → Int32} {L : Nat → Nat → Int64} {x1 : Int32} {x2 : Int32} {x3 : Int32}
    (H : br_r d 16 0 [some (.int x1), some (.int (nI 0)), some (.int ((I 9 2) - (nI 1)))] [] (br_hp n I L) (fun v h => br_r (d + 1) 19 14 [some (.ref 8), some (.int x1), some (.int x2), some (.int x3)] (v.toList ++ []) (br_bk h) Q)) :
    br_r (d + 1) 19 0 [some (.ref 8), some (.int x1), some (.int x2), some (.int x3)] [] (br_hp n I L) Q := br_run_blk br_stops_19 400 ⟨rfl, ⟨rfl, H⟩⟩
theorem rb_A_child_14 {d n : Nat} {Q : br_Q} {I : Nat → Nat → Int32} {L : Nat → Nat → Int64} {x1 : Int32} {x2 : Int32} {x3 : Int32} {s0 : Int32}
    (H : ((s0 = (nI 0)) → (br_r d 16 0 [some (.int x2), some (.int (nI 1)), some (.int (nI 6))] [] (br_hp n I L) (fun v h => br_r (d + 1) 19 30 [some (.ref 8), some (.int x1), some (.int x2), some (.int x3)] (v.toList ++ []) (br_bk h) Q))) ∧ ((¬ (s0 = (nI 0))) → (br_r d 17 0 [some (.ref 8), some (.int (nI 2))] [] (br_hp n I L) (fun v h => br_r (d + 1) 19 22 [some (.ref 8), some (.int x1), some (.int x2), some (.int x3)] (v.toList ++ []) (br_bk h) Q)))) :
    br_r (d + 1) 19 14 [some (.ref 8), some (.int x1), some (.int x2), some (.int x3)] [(.int s0)] (br_hp n I L) Q := br_run_blk br_stops_19 400 ⟨fun z1 => (H.1 z1), fun z1 => ⟨rfl, (H.2 z1)⟩⟩
theorem rb_A_child_22 {d n : Nat} {Q : br_Q} {I : Nat → Nat → Int32} {L : Nat → Nat → Int64} {z0 : Option Value} {z1 : Option Value} {z2 : Option Value} {z3 : Option Value} {s0 : Int32}
    (H : Q (some (.int s0)) (br_hp n I L)) :
    br_r (d + 1) 19 22 [z0, z1, z2, z3] [(.int s0)] (br_hp n I L) Q := br_run_blk br_stops_19 400 ⟨rfl, H⟩
theorem rb_A_child_30 {d n : Nat} {Q : br_Q} {I : Nat → Nat → Int32} {L : Nat → Nat → Int64} {x1 : Int32} {x2 : Int32} {x3 : Int32} {s0 : Int32}
    (H : ((¬ s0 = (nI 0)) → (br_r d 17 0 [some (.ref 8), some (.int (nI 3))] [] (br_hp n I L) (fun v h => br_r (d + 1) 19 49 [some (.ref 8), some (.int x1), some (.int x2), some (.int x3)] (v.toList ++ []) (br_bk h) Q))) ∧ ((¬ (¬ s0 = (nI 0))) → (br_r d 16 0 [some (.int x3), some (.int (nI 0)), some (.int (nI 200))] [] (br_hp n I L) (fun v h => br_r (d + 1) 19 41 [some (.ref 8), some (.int x1), some (.int x2), some (.int x3)] (v.toList ++ []) (br_bk h) Q)))) :
    br_r (d + 1) 19 30 [some (.ref 8), some (.int x1), some (.int x2), some (.int x3)] [(.int s0)] (br_hp n I L) Q := br_run_blk br_stops_19 400 ⟨fun z2 => ⟨rfl, (H.1 z2)⟩, fun z2 => (H.2 z2)⟩
theorem rb_A_child_41 {d n : Nat} {Q : br_Q} {I : Nat → Nat → Int32} {L : Nat → Nat → Int64} {x1 : Int32} {x2 : Int32} {x3 : Int32} {s0 : Int32}
    (H : ((s0 = (nI 0)) → ((((I 9 8) < (nI 40)) → (br_r d 20 0 [some (.ref 9), some (.int x1), some (.int x2), some (.int x3)] [] (br_hp n I L) (fun v h => br_r (d + 1) 19 78 [some (.ref 8), some (.int x1), some (.int x2), some (.int x3)] (v.toList ++ []) (br_bk h) Q))) ∧ ((¬ ((I 9 8) < (nI 40))) → (br_r d 17 0 [some (.ref 8), some (.int (nI 4))] [] (br_hp n I L) (fun v h => br_r (d + 1) 19 67 [some (.ref 8), some (.int x1), some (.int x2), some (.int x3)] (v.toList ++ []) (br_bk h) Q))))) ∧ ((¬ (s0 = (nI 0))) → (br_r d 17 0 [some (.ref 8), some (.int (nI 3))] [] (br_hp n I L) (fun v h => br_r (d + 1) 19 49 [some (.ref 8), some (.int x1), some (.int x2), some (.int x3)] (v.toList ++ []) (br_bk h) Q)))) :
    br_r (d + 1) 19 41 [some (.ref 8), some (.int x1), some (.int x2), some (.int x3)] [(.int s0)] (br_hp n I L) Q := br_run_blk br_stops_19 400 ⟨fun z4 => ⟨rfl, ⟨rfl, ⟨fun z3 => ⟨rfl, ⟨rfl, ((H.1 z4).1 z3)⟩⟩, fun z3 => ⟨rfl, ((H.1 z4).2 z3)⟩⟩⟩⟩, fun z4 => ⟨rfl, (H.2 z4)⟩⟩
theorem rb_A_child_49 {d n : Nat} {Q : br_Q} {I : Nat → Nat → Int32} {L : Nat → Nat → Int64} {z0 : Option Value} {z1 : Option Value} {z2 : Option Value} {z3 : Option Value} {s0 : Int32}
    (H : Q (some (.int s0)) (br_hp n I L)) :
    br_r (d + 1) 19 49 [z0, z1, z2, z3] [(.int s0)] (br_hp n I L) Q := br_run_blk br_stops_19 400 ⟨rfl, H⟩
theorem rb_A_child_67 {d n : Nat} {Q : br_Q} {I : Nat → Nat → Int32} {L : Nat → Nat → Int64} {z0 : Option Value} {z1 : Option Value} {z2 : Option Value} {z3 : Option Value} {s0 : Int32}
    (H : Q (some (.int s0)) (br_hp n I L)) :
    br_r (d + 1) 19 67 [z0, z1, z2, z3] [(.int s0)] (br_hp n I L) Q := br_run_blk br_stops_19 400 ⟨rfl, H⟩
theorem rb_A_child_78 {d n : Nat} {Q : br_Q} {I : Nat → Nat → Int32} {L : Nat → Nat → Int64} {z0 : Option Value} {z1 : Option Value} {z2 : Option Value} {z3 : Option Value} {s0 : Int32}
    (H : Q (some (.int s0)) (br_hp n I L)) :
    br_r (d + 1) 19 78 [z0, z1, z2, z3] [(.int s0)] (br_hp n I L) Q := br_run_blk br_stops_19 400 ⟨rfl, H⟩
def br_stops_20 : List Nat := [0]
theorem rb_World_addChild_0 {d n : Nat} {Q : br_Q} {I : Nat → Nat → Int32} {L : Nat → Nat → Int64} {x1 : Int32} {x2 : Int32} {x3 : Int32}
    (H : (((I 9 8) < (nI 40)) → ((vp_in (I 9 8) 40) ∧ ((vp_in ((br_u I 12 (I 9 8).toNatClampNeg x1) 9 8) 40) ∧ ((vp_in ((br_u (br_u I 12 (I 9 8).toNatClampNeg x1) 13 ((br_u I 12 (I 9 8).toNatClampNeg x1) 9 8).toNatClampNeg x2) 9 8) 40) ∧ (Q (some (.int (((br_u (br_u (br_u (br_u I 12 (I 9 8).toNatClampNeg x1) 13 ((br_u I 12 (I 9 8).toNatClampNeg x1) 9 8).toNatClampNeg x2) 14 ((br_u (br_u I 12 (I 9 8).toNatClampNeg x1) 13 ((br_u I 12 (I 9 8).toNatClampNeg x1) 9 8).toNatClampNeg x2) 9 8).toNatClampNeg x3) 9 8 (((br_u (br_u (br_u I 12 (I 9 8).toNatClampNeg x1) 13 ((br_u I 12 (I 9 8).toNatClampNeg x1) 9 8).toNatClampNeg x2) 14 ((br_u (br_u I 12 (I 9 8).toNatClampNeg x1) 13 ((br_u I 12 (I 9 8).toNatClampNeg x1) 9 8).toNatClampNeg x2) 9 8).toNatClampNeg x3) 9 8) + (nI 1))) 9 8) - (nI 1)))) (br_hp n (br_u (br_u (br_u (br_u I 12 (I 9 8).toNatClampNeg x1) 13 ((br_u I 12 (I 9 8).toNatClampNeg x1) 9 8).toNatClampNeg x2) 14 ((br_u (br_u I 12 (I 9 8).toNatClampNeg x1) 13 ((br_u I 12 (I 9 8).toNatClampNeg x1) 9 8).toNatClampNeg x2) 9 8).toNatClampNeg x3) 9 8 (((br_u (br_u (br_u I 12 (I 9 8).toNatClampNeg x1) 13 ((br_u I 12 (I 9 8).toNatClampNeg x1) 9 8).toNatClampNeg x2) 14 ((br_u (br_u I 12 (I 9 8).toNatClampNeg x1) 13 ((br_u I 12 (I 9 8).toNatClampNeg x1) 9 8).toNatClampNeg x2) 9 8).toNatClampNeg x3) 9 8) + (nI 1))) L)))))) ∧ ((¬ ((I 9 8) < (nI 40))) → (Q (some (.int (-(nI 1)))) (br_hp n I L)))) :
    br_r d 20 0 [some (.ref 9), some (.int x1), some (.int x2), some (.int x3)] [] (br_hp n I L) Q := br_run_blk br_stops_20 400 ⟨rfl, ⟨fun z1 => ⟨rfl, ⟨rfl, ⟨rfl, (Nat.le_of_ble_eq_true rfl), (H.1 z1).1, ⟨rfl, ⟨rfl, ⟨rfl, (Nat.le_of_ble_eq_true rfl), (H.1 z1).2.1, ⟨rfl, ⟨rfl, ⟨rfl, (Nat.le_of_ble_eq_true rfl), (H.1 z1).2.2.1, ⟨rfl, ⟨rfl, ⟨rfl, ⟨rfl, (H.1 z1).2.2.2⟩⟩⟩⟩⟩⟩⟩⟩⟩⟩⟩⟩⟩, fun z1 => ⟨rfl, (H.2 z1)⟩⟩⟩
def br_stops_21 : List Nat := [0, 5, 13, 20, 28]
theorem rb_A_word_0 {d n : Nat} {Q : br_Q} {I : Nat → Nat → Int32} {L : Nat → Nat → Int64} {x1 : Int32} {x2 : Int32} {z3 : Option Value}
    (H : br_r d 22 0 [some (.ref 8), some (.int x1)] [] (br_hp n I L) (fun v h => br_r (d + 1) 21 5 [some (.ref 8), some (.int x1), some (.int x2), z3] (v.toList ++ []) (br_bk h) Q)) :
    br_r (d + 1) 21 0 [some (.ref 8), some (.int x1), some (.int x2), z3] [] (br_hp n I L) Q := br_run_blk br_stops_21 400 ⟨rfl, H⟩
theorem rb_A_word_5 {d n : Nat} {Q : br_Q} {I : Nat → Nat → Int32} {L : Nat → Nat → Int64} {x1 : Int32} {x2 : Int32} {z3 : Option Value} {s0 : Int32}
    (H : ((s0 = (nI 0)) → (br_r d 16 0 [some (.int x2), some (.int (nI 0)), some (.int (nI 5))] [] (br_hp n I L) (fun v h => br_r (d + 1) 21 20 [some (.ref 8), some (.int x1), some (.int x2), z3] (v.toList ++ []) (br_bk h) Q))) ∧ ((¬ (s0 = (nI 0))) → (br_r d 17 0 [some (.ref 8), some (.int (nI 2))] [] (br_hp n I L) (fun v h => br_r (d + 1) 21 13 [some (.ref 8), some (.int x1), some (.int x2), z3] (v.toList ++ []) (br_bk h) Q)))) :
    br_r (d + 1) 21 5 [some (.ref 8), some (.int x1), some (.int x2), z3] [(.int s0)] (br_hp n I L) Q := br_run_blk br_stops_21 400 ⟨fun z1 => (H.1 z1), fun z1 => ⟨rfl, (H.2 z1)⟩⟩
theorem rb_A_word_13 {d n : Nat} {Q : br_Q} {I : Nat → Nat → Int32} {L : Nat → Nat → Int64} {z0 : Option Value} {z1 : Option Value} {z2 : Option Value} {z3 : Option Value} {s0 : Int32}
    (H : Q (some (.int s0)) (br_hp n I L)) :
    br_r (d + 1) 21 13 [z0, z1, z2, z3] [(.int s0)] (br_hp n I L) Q := br_run_blk br_stops_21 400 ⟨rfl, H⟩
theorem rb_A_word_20 {d n : Nat} {Q : br_Q} {I : Nat → Nat → Int32} {L : Nat → Nat → Int64} {x1 : Int32} {x2 : Int32} {z3 : Option Value} {s0 : Int32}
    (H : ((s0 = (nI 0)) → ((vp_in x1 40) ∧ ((vp_in x1 40) ∧ (Q (some (.int (I 15 x1.toNatClampNeg))) (br_hp n (br_u I 15 x1.toNatClampNeg x2) L))))) ∧ ((¬ (s0 = (nI 0))) → (br_r d 17 0 [some (.ref 8), some (.int (nI 3))] [] (br_hp n I L) (fun v h => br_r (d + 1) 21 28 [some (.ref 8), some (.int x1), some (.int x2), z3] (v.toList ++ []) (br_bk h) Q)))) :
    br_r (d + 1) 21 20 [some (.ref 8), some (.int x1), some (.int x2), z3] [(.int s0)] (br_hp n I L) Q := br_run_blk br_stops_21 400 ⟨fun z2 => ⟨rfl, ⟨rfl, ⟨rfl, (H.1 z2).1, ⟨rfl, ⟨rfl, ⟨rfl, (Nat.le_of_ble_eq_true rfl), (H.1 z2).2.1, ⟨rfl, (H.1 z2).2.2⟩⟩⟩⟩⟩⟩⟩, fun z2 => ⟨rfl, (H.2 z2)⟩⟩
theorem rb_A_word_28 {d n : Nat} {Q : br_Q} {I : Nat → Nat → Int32} {L : Nat → Nat → Int64} {z0 : Option Value} {z1 : Option Value} {z2 : Option Value} {z3 : Option Value} {s0 : Int32}
    (H : Q (some (.int s0)) (br_hp n I L)) :
    br_r (d + 1) 21 28 [z0, z1, z2, z3] [(.int s0)] (br_hp n I L) Q := br_run_blk br_stops_21 400 ⟨rfl, H⟩
def br_stops_22 : List Nat := [0, 14]
theorem rb_A_noChild_0 {d n : Nat} {Q : br_Q} {I : Nat → Nat → Int32} {L : Nat → Nat → Int64} {x1 : Int32}
    (H : br_r d 16 0 [some (.int x1), some (.int (nI 0)), some (.int ((I 9 8) - (nI 1)))] [] (br_hp n I L) (fun v h => br_r (d + 1) 22 14 [some (.ref 8), some (.int x1)] (v.toList ++ []) (br_bk h) Q)) :
    br_r (d + 1) 22 0 [some (.ref 8), some (.int x1)] [] (br_hp n I L) Q := br_run_blk br_stops_22 400 ⟨rfl, ⟨rfl, H⟩⟩
theorem rb_A_noChild_14 {d n : Nat} {Q : br_Q} {I : Nat → Nat → Int32} {L : Nat → Nat → Int64} {z0 : Option Value} {z1 : Option Value} {s0 : Int32}
    (H : (s0 = 0 ∨ s0 = 1) ∧ Q (some (.int s0)) (br_hp n I L)) :
    br_r (d + 1) 22 14 [z0, z1] [(.int s0)] (br_hp n I L) Q := br_run_blk br_stops_22 400 ⟨rfl, H⟩
def br_stops_23 : List Nat := [0, 5, 13, 31]
theorem rb_A_gone_0 {d n : Nat} {Q : br_Q} {I : Nat → Nat → Int32} {L : Nat → Nat → Int64} {x1 : Int32}
    (H : br_r d 22 0 [some (.ref 8), some (.int x1)] [] (br_hp n I L) (fun v h => br_r (d + 1) 23 5 [some (.ref 8), some (.int x1)] (v.toList ++ []) (br_bk h) Q)) :
    br_r (d + 1) 23 0 [some (.ref 8), some (.int x1)] [] (br_hp n I L) Q := br_run_blk br_stops_23 400 ⟨rfl, H⟩
theorem rb_A_gone_5 {d n : Nat} {Q : br_Q} {I : Nat → Nat → Int32} {L : Nat → Nat → Int64} {x1 : Int32} {s0 : Int32}
    (H : ((s0 = (nI 0)) → ((vp_in x1 40) ∧ ((((I 16 x1.toNatClampNeg) = (nI 0)) → ((vp_in x1 40) ∧ (Q (some (.int (nI 0))) (br_hp n (br_u I 16 x1.toNatClampNeg (nI 1)) L)))) ∧ ((¬ ((I 16 x1.toNatClampNeg) = (nI 0))) → (br_r d 17 0 [some (.ref 8), some (.int (nI 5))] [] (br_hp n I L) (fun v h => br_r (d + 1) 23 31 [some (.ref 8), some (.int x1)] (v.toList ++ []) (br_bk h) Q)))))) ∧ ((¬ (s0 = (nI 0))) → (br_r d 17 0 [some (.ref 8), some (.int (nI 2))] [] (br_hp n I L) (fun v h => br_r (d + 1) 23 13 [some (.ref 8), some (.int x1)] (v.toList ++ []) (br_bk h) Q)))) :
    br_r (d + 1) 23 5 [some (.ref 8), some (.int x1)] [(.int s0)] (br_hp n I L) Q := br_run_blk br_stops_23 400 ⟨fun z2 => ⟨rfl, ⟨rfl, ⟨Or.inl rfl, (H.1 z2).1, ⟨fun z1 => ⟨rfl, ⟨rfl, ⟨(Nat.le_of_ble_eq_true rfl), ((H.1 z2).2.1 z1).1, Or.inl ⟨rfl, ⟨rfl, ((H.1 z2).2.1 z1).2⟩⟩⟩⟩⟩, fun z1 => ⟨rfl, ((H.1 z2).2.2 z1)⟩⟩⟩⟩⟩, fun z2 => ⟨rfl, (H.2 z2)⟩⟩
theorem rb_A_gone_13 {d n : Nat} {Q : br_Q} {I : Nat → Nat → Int32} {L : Nat → Nat → Int64} {z0 : Option Value} {z1 : Option Value} {s0 : Int32}
    (H : Q (some (.int s0)) (br_hp n I L)) :
    br_r (d + 1) 23 13 [z0, z1] [(.int s0)] (br_hp n I L) Q := br_run_blk br_stops_23 400 ⟨rfl, H⟩
theorem rb_A_gone_31 {d n : Nat} {Q : br_Q} {I : Nat → Nat → Int32} {L : Nat → Nat → Int64} {z0 : Option Value} {z1 : Option Value} {s0 : Int32}
    (H : Q (some (.int s0)) (br_hp n I L)) :
    br_r (d + 1) 23 31 [z0, z1] [(.int s0)] (br_hp n I L) Q := br_run_blk br_stops_23 400 ⟨rfl, H⟩
def br_stops_24 : List Nat := [0, 5, 15, 23, 148, 171]
theorem rb_A_of_0 {d n : Nat} {Q : br_Q} {I : Nat → Nat → Int32} {L : Nat → Nat → Int64} {x1 : Int32} {x2 : Int32}
    (H : br_r d 22 0 [some (.ref 8), some (.int x1)] [] (br_hp n I L) (fun v h => br_r (d + 1) 24 5 [some (.ref 8), some (.int x1), some (.int x2)] (v.toList ++ []) (br_bk h) Q)) :
    br_r (d + 1) 24 0 [some (.ref 8), some (.int x1), some (.int x2)] [] (br_hp n I L) Q := br_run_blk br_stops_24 400 ⟨rfl, H⟩
theorem rb_A_of_5 {d n : Nat} {Q : br_Q} {I : Nat → Nat → Int32} {L : Nat → Nat → Int64} {x1 : Int32} {x2 : Int32} {s0 : Int32}
    (H : ((¬ s0 = (nI 0)) → (br_r d 17 0 [some (.ref 8), some (.int (nI 2))] [] (br_hp n I L) (fun v h => br_r (d + 1) 24 23 [some (.ref 8), some (.int x1), some (.int x2)] (v.toList ++ []) (br_bk h) Q))) ∧ ((¬ (¬ s0 = (nI 0))) → (br_r d 16 0 [some (.int x2), some (.int (nI 0)), some (.int (nI 6))] [] (br_hp n I L) (fun v h => br_r (d + 1) 24 15 [some (.ref 8), some (.int x1), some (.int x2)] (v.toList ++ []) (br_bk h) Q)))) :
    br_r (d + 1) 24 5 [some (.ref 8), some (.int x1), some (.int x2)] [(.int s0)] (br_hp n I L) Q := br_run_blk br_stops_24 400 ⟨fun z1 => ⟨rfl, (H.1 z1)⟩, fun z1 => (H.2 z1)⟩
theorem rb_A_of_15 {d n : Nat} {Q : br_Q} {I : Nat → Nat → Int32} {L : Nat → Nat → Int64} {x1 : Int32} {x2 : Int32} {s0 : Int32}
    (H : ((s0 = (nI 0)) → (((x2 = (nI 0)) → ((vp_in x1 40) ∧ (Q (some (.int (I 12 x1.toNatClampNeg))) (br_hp n I L)))) ∧ ((¬ (x2 = (nI 0))) → (((x2 = (nI 1)) → ((vp_in x1 40) ∧ (Q (some (.int (I 13 x1.toNatClampNeg))) (br_hp n I L)))) ∧ ((¬ (x2 = (nI 1))) → (((x2 = (nI 2)) → ((vp_in x1 40) ∧ (Q (some (.int (I 14 x1.toNatClampNeg))) (br_hp n I L)))) ∧ ((¬ (x2 = (nI 2))) → (((x2 = (nI 3)) → ((vp_in x1 40) ∧ (Q (some (.int (I 15 x1.toNatClampNeg))) (br_hp n I L)))) ∧ ((¬ (x2 = (nI 3))) → (((x2 = (nI 4)) → ((vp_in x1 40) ∧ ((((I 16 x1.toNatClampNeg) = (nI 0)) → (Q (some (.int (nI 1))) (br_hp n I L))) ∧ ((¬ ((I 16 x1.toNatClampNeg) = (nI 0))) → (Q (some (.int (nI 0))) (br_hp n I L)))))) ∧ ((¬ (x2 = (nI 4))) → (((x2 = (nI 5)) → (br_r d 25 0 [some (.ref 9), some (.ref 25), some (.int x1), some (.int (I 9 9))] [] (br_hp n I L) (fun v h => br_r (d + 1) 24 148 [some (.ref 8), some (.int x1), some (.int x2)] (v.toList ++ []) (br_bk h) Q))) ∧ ((¬ (x2 = (nI 5))) → (br_r d 31 0 [some (.ref 9), some (.ref 25), some (.int x1), some (.int (I 9 9))] [] (br_hp n I L) (fun v h => br_r (d + 1) 24 171 [some (.ref 8), some (.int x1), some (.int x2)] (v.toList ++ []) (br_bk h) Q))))))))))))))) ∧ ((¬ (s0 = (nI 0))) → (br_r d 17 0 [some (.ref 8), some (.int (nI 2))] [] (br_hp n I L) (fun v h => br_r (d + 1) 24 23 [some (.ref 8), some (.int x1), some (.int x2)] (v.toList ++ []) (br_bk h) Q)))) :
    br_r (d + 1) 24 15 [some (.ref 8), some (.int x1), some (.int x2)] [(.int s0)] (br_hp n I L) Q := br_run_blk br_stops_24 400 ⟨fun z9 => ⟨fun z8 => ⟨rfl, ⟨rfl, ⟨rfl, ((H.1 z9).1 z8).1, ⟨rfl, ((H.1 z9).1 z8).2⟩⟩⟩⟩, fun z8 => ⟨fun z7 => ⟨rfl, ⟨rfl, ⟨rfl, (((H.1 z9).2 z8).1 z7).1, ⟨rfl, (((H.1 z9).2 z8).1 z7).2⟩⟩⟩⟩, fun z7 => ⟨fun z6 => ⟨rfl, ⟨rfl, ⟨rfl, ((((H.1 z9).2 z8).2 z7).1 z6).1, ⟨rfl, ((((H.1 z9).2 z8).2 z7).1 z6).2⟩⟩⟩⟩, fun z6 => ⟨fun z5 => ⟨rfl, ⟨rfl, ⟨rfl, (((((H.1 z9).2 z8).2 z7).2 z6).1 z5).1, ⟨rfl, (((((H.1 z9).2 z8).2 z7).2 z6).1 z5).2⟩⟩⟩⟩, fun z5 => ⟨fun z4 => ⟨rfl, ⟨rfl, ⟨Or.inl rfl, ((((((H.1 z9).2 z8).2 z7).2 z6).2 z5).1 z4).1, ⟨fun z2 => ⟨rfl, (((((((H.1 z9).2 z8).2 z7).2 z6).2 z5).1 z4).2.1 z2)⟩, fun z2 => ⟨rfl, (((((((H.1 z9).2 z8).2 z7).2 z6).2 z5).1 z4).2.2 z2)⟩⟩⟩⟩⟩, fun z4 => ⟨fun z3 => ⟨rfl, ⟨rfl, ⟨rfl, ⟨rfl, ⟨rfl, ⟨rfl, (((((((H.1 z9).2 z8).2 z7).2 z6).2 z5).2 z4).1 z3)⟩⟩⟩⟩⟩⟩, fun z3 => ⟨rfl, ⟨rfl, ⟨rfl, ⟨rfl, ⟨rfl, ⟨rfl, (((((((H.1 z9).2 z8).2 z7).2 z6).2 z5).2 z4).2 z3)⟩⟩⟩⟩⟩⟩⟩⟩⟩⟩⟩⟩, fun z9 => ⟨rfl, (H.2 z9)⟩⟩
theorem rb_A_of_23 {d n : Nat} {Q : br_Q} {I : Nat → Nat → Int32} {L : Nat → Nat → Int64} {z0 : Option Value} {z1 : Option Value} {z2 : Option Value} {s0 : Int32}
    (H : Q (some (.int (-(nI 1000)))) (br_hp n I L)) :
    br_r (d + 1) 24 23 [z0, z1, z2] [(.int s0)] (br_hp n I L) Q := br_run_blk br_stops_24 400 ⟨rfl, H⟩
theorem rb_A_of_148 {d n : Nat} {Q : br_Q} {I : Nat → Nat → Int32} {L : Nat → Nat → Int64} {z0 : Option Value} {z1 : Option Value} {z2 : Option Value} {s0 : Int32}
    (H : Q (some (.int s0)) (br_hp n I L)) :
    br_r (d + 1) 24 148 [z0, z1, z2] [(.int s0)] (br_hp n I L) Q := br_run_blk br_stops_24 400 ⟨rfl, H⟩
theorem rb_A_of_171 {d n : Nat} {Q : br_Q} {I : Nat → Nat → Int32} {L : Nat → Nat → Int64} {z0 : Option Value} {z1 : Option Value} {z2 : Option Value} {s0 : Int32}
    (H : Q (some (.int s0)) (br_hp n I L)) :
    br_r (d + 1) 24 171 [z0, z1, z2] [(.int s0)] (br_hp n I L) Q := br_run_blk br_stops_24 400 ⟨rfl, H⟩
def br_stops_25 : List Nat := [0, 9, 14, 24, 35]
theorem rb_World_holdOf_0 {d n : Nat} {Q : br_Q} {I : Nat → Nat → Int32} {L : Nat → Nat → Int64} {r1 : Nat} {x2 : Int32} {x3 : Int32}
    (H : br_r d 26 0 [some (.ref 15), some (.int x2)] [] (br_hp n I L) (fun v h => br_r (d + 1) 25 9 [some (.ref 9), some (.ref r1), some (.int x2), some (.int x3)] (v.toList ++ [(.ref r1)]) (br_bk h) Q)) :
    br_r (d + 1) 25 0 [some (.ref 9), some (.ref r1), some (.int x2), some (.int x3)] [] (br_hp n I L) Q := br_run_blk br_stops_25 400 ⟨rfl, H⟩
theorem rb_World_holdOf_9 {d n : Nat} {Q : br_Q} {I : Nat → Nat → Int32} {L : Nat → Nat → Int64} {z1 : Option Value} {x2 : Int32} {x3 : Int32} {q0 : Nat} {s1 : Int32}
    (H : br_r d 27 0 [some (.ref 9), some (.int x2)] [] (br_hp n I L) (fun v h => br_r (d + 1) 25 14 [some (.ref 9), z1, some (.int x2), some (.int x3)] (v.toList ++ [(.int s1), (.ref q0)]) (br_bk h) Q)) :
    br_r (d + 1) 25 9 [some (.ref 9), z1, some (.int x2), some (.int x3)] [(.int s1), (.ref q0)] (br_hp n I L) Q := br_run_blk br_stops_25 400 ⟨rfl, H⟩
theorem rb_World_holdOf_14 {d n : Nat} {Q : br_Q} {I : Nat → Nat → Int32} {L : Nat → Nat → Int64} {z1 : Option Value} {x2 : Int32} {x3 : Int32} {q0 : Nat} {s1 : Int32} {s2 : Int32}
    (H : ((x3 < (nI 1)) → ((br_S0 n q0 = (0, 2)) ∧ (br_r d 29 0 [some (.ref q0), some (.int s1), some (.int s2), some (.int (nI 0)), none, none] [] (br_hp n I L) (fun v h => br_r (d + 1) 25 35 [some (.ref 9), z1, some (.int x2), some (.int x3)] (v.toList ++ []) (br_bk h) Q)))) ∧ ((¬ (x3 < (nI 1))) → (br_r d 28 0 [some (.ref 9), some (.int x2), none] [] (br_hp n I L) (fun v h => br_r (d + 1) 25 24 [some (.ref 9), z1, some (.int x2), some (.int x3)] (v.toList ++ [(.int s2), (.int s1), (.ref q0)]) (br_bk h) Q)))) :
    br_r (d + 1) 25 14 [some (.ref 9), z1, some (.int x2), some (.int x3)] [(.int s2), (.int s1), (.ref q0)] (br_hp n I L) Q := br_run_blk br_stops_25 400 ⟨fun z1 => ⟨(H.1 z1).1, (H.1 z1).2⟩, fun z1 => ⟨rfl, (H.2 z1)⟩⟩
theorem rb_World_holdOf_24 {d n : Nat} {Q : br_Q} {I : Nat → Nat → Int32} {L : Nat → Nat → Int64} {z0 : Option Value} {z1 : Option Value} {z2 : Option Value} {z3 : Option Value} {q0 : Nat} {s1 : Int32} {s2 : Int32} {s3 : Int32}
    (H : ((s3 = (nI 0)) → ((br_S0 n q0 = (0, 2)) ∧ (br_r d 29 0 [some (.ref q0), some (.int s1), some (.int s2), some (.int (nI 0)), none, none] [] (br_hp n I L) (fun v h => br_r (d + 1) 25 35 [z0, z1, z2, z3] (v.toList ++ []) (br_bk h) Q)))) ∧ ((¬ (s3 = (nI 0))) → ((br_S0 n q0 = (0, 2)) ∧ (br_r d 29 0 [some (.ref q0), some (.int s1), some (.int s2), some (.int (nI 1)), none, none] [] (br_hp n I L) (fun v h => br_r (d + 1) 25 35 [z0, z1, z2, z3] (v.toList ++ []) (br_bk h) Q))))) :
    br_r (d + 1) 25 24 [z0, z1, z2, z3] [(.int s3), (.int s2), (.int s1), (.ref q0)] (br_hp n I L) Q := br_run_blk br_stops_25 400 ⟨fun z2 => ⟨(H.1 z2).1, (H.1 z2).2⟩, fun z2 => ⟨(H.2 z2).1, (H.2 z2).2⟩⟩
theorem rb_World_holdOf_35 {d n : Nat} {Q : br_Q} {I : Nat → Nat → Int32} {L : Nat → Nat → Int64} {z0 : Option Value} {z1 : Option Value} {z2 : Option Value} {z3 : Option Value} {s0 : Int32}
    (H : Q (some (.int s0)) (br_hp n I L)) :
    br_r (d + 1) 25 35 [z0, z1, z2, z3] [(.int s0)] (br_hp n I L) Q := br_run_blk br_stops_25 400 ⟨rfl, H⟩
def br_stops_26 : List Nat := [0]
theorem rb_A_at_0 {d n : Nat} {Q : br_Q} {I : Nat → Nat → Int32} {L : Nat → Nat → Int64} {r0 : Nat} {x1 : Int32}
    (H : ((x1 < (nI 0)) → (Q (some (.int (nI 0))) (br_hp n I L))) ∧ ((¬ (x1 < (nI 0))) → ((br_ar (br_S0 n r0).1 = true) ∧ ((((Int32.ofNat (br_S0 n r0).2) ≤ x1) → (Q (some (.int (nI 0))) (br_hp n I L))) ∧ ((¬ ((Int32.ofNat (br_S0 n r0).2) ≤ x1)) → (((br_S0 n r0).1 = 1) ∧ (vp_in x1 (br_S0 n r0).2) ∧ (Q (some (.int (I r0 x1.toNatClampNeg))) (br_hp n I L)))))))) :
    br_r d 26 0 [some (.ref r0), some (.int x1)] [] (br_hp n I L) Q := br_run_blk br_stops_26 400 ⟨fun z2 => ⟨rfl, (H.1 z2)⟩, fun z2 => ⟨(H.2 z2).1, ⟨fun z1 => ⟨rfl, ((H.2 z2).2.1 z1)⟩, fun z1 => ⟨((H.2 z2).2.2 z1).1, ((H.2 z2).2.2 z1).2.1, ⟨rfl, ((H.2 z2).2.2 z1).2.2⟩⟩⟩⟩⟩
def br_stops_27 : List Nat := [0, 12, 15]
theorem rb_World_weeksOf_0 {d n : Nat} {Q : br_Q} {I : Nat → Nat → Int32} {L : Nat → Nat → Int64} {x1 : Int32}
    (H : br_r d 26 0 [some (.ref 12), some (.int x1)] [] (br_hp n I L) (fun v h => br_r (d + 1) 27 12 [some (.ref 9), some (.int x1)] (v.toList ++ [(.ref 10)]) (br_bk h) Q)) :
    br_r (d + 1) 27 0 [some (.ref 9), some (.int x1)] [] (br_hp n I L) Q := br_run_blk br_stops_27 400 ⟨rfl, ⟨rfl, H⟩⟩
theorem rb_World_weeksOf_12 {d n : Nat} {Q : br_Q} {I : Nat → Nat → Int32} {L : Nat → Nat → Int64} {z0 : Option Value} {z1 : Option Value} {s1 : Int32}
    (H : br_r d 26 0 [some (.ref 10), some (.int s1)] [] (br_hp n I L) (fun v h => br_r (d + 1) 27 15 [z0, z1] (v.toList ++ []) (br_bk h) Q)) :
    br_r (d + 1) 27 12 [z0, z1] [(.int s1), (.ref 10)] (br_hp n I L) Q := br_run_blk br_stops_27 400 H
theorem rb_World_weeksOf_15 {d n : Nat} {Q : br_Q} {I : Nat → Nat → Int32} {L : Nat → Nat → Int64} {z0 : Option Value} {z1 : Option Value} {s0 : Int32}
    (H : Q (some (.int s0)) (br_hp n I L)) :
    br_r (d + 1) 27 15 [z0, z1] [(.int s0)] (br_hp n I L) Q := br_run_blk br_stops_27 400 ⟨rfl, H⟩
def br_stops_28 : List Nat := [0, 8]
theorem rb_World_forgetsOf_0 {d n : Nat} {Q : br_Q} {I : Nat → Nat → Int32} {L : Nat → Nat → Int64} {x1 : Int32} {z2 : Option Value}
    (H : br_r d 26 0 [some (.ref 12), some (.int x1)] [] (br_hp n I L) (fun v h => br_r (d + 1) 28 8 [some (.ref 9), some (.int x1), z2] (v.toList ++ []) (br_bk h) Q)) :
    br_r (d + 1) 28 0 [some (.ref 9), some (.int x1), z2] [] (br_hp n I L) Q := br_run_blk br_stops_28 400 ⟨rfl, H⟩
theorem rb_World_forgetsOf_8 {d n : Nat} {Q : br_Q} {I : Nat → Nat → Int32} {L : Nat → Nat → Int64} {z1 : Option Value} {z2 : Option Value} {s0 : Int32}
    (H : ((s0 < (nI 0)) → (Q (some (.int (nI 0))) (br_hp n I L))) ∧ ((¬ (s0 < (nI 0))) → ((((nI 18) ≤ s0) → (Q (some (.int (nI 0))) (br_hp n I L))) ∧ ((¬ ((nI 18) ≤ s0)) → ((vp_in s0 18) ∧ ((((I 11 s0.toNatClampNeg) = (nI 0)) → (Q (some (.int (nI 0))) (br_hp n I L))) ∧ ((¬ ((I 11 s0.toNatClampNeg) = (nI 0))) → (Q (some (.int (nI 1))) (br_hp n I L))))))))) :
    br_r (d + 1) 28 8 [some (.ref 9), z1, z2] [(.int s0)] (br_hp n I L) Q := br_run_blk br_stops_28 400 ⟨fun z3 => ⟨rfl, Or.inl rfl, (H.1 z3)⟩, fun z3 => ⟨rfl, ⟨rfl, ⟨fun z2 => ⟨rfl, Or.inl rfl, ((H.2 z3).1 z2)⟩, fun z2 => ⟨rfl, ⟨Or.inl rfl, ((H.2 z3).2 z2).1, ⟨fun z1 => ⟨rfl, Or.inl rfl, (((H.2 z3).2 z2).2.1 z1)⟩, fun z1 => ⟨rfl, Or.inr rfl, (((H.2 z3).2 z2).2.2 z1)⟩⟩⟩⟩⟩⟩⟩⟩
def br_stops_29 : List Nat := [0, 28, 40]
theorem rb_Law_hold_0 {d n : Nat} {Q : br_Q} {I : Nat → Nat → Int32} {L : Nat → Nat → Int64} {r0 : Nat} {x1 : Int32} {x2 : Int32} {x3 : Int32} {z4 : Option Value} {z5 : Option Value}
    (H : ((x1 < (nI 1)) → (Q (some (.int (nI 0))) (br_hp n I L))) ∧ ((¬ (x1 < (nI 1))) → (((x1 ≤ (nI 5)) → ((br_S0 n r0 = (0, 2)) ∧ (((br_S0 n (br_R0 r0 0)).1 = 1) ∧ (vp_in (nI 11) (br_S0 n (br_R0 r0 0)).2) ∧ (br_r d 30 0 [some (.int (nI 0)), some (.int ((nI 100) - ((I (br_R0 r0 0) 11) * x2)))] [] (br_hp n I L) (fun v h => br_r (d + 1) 29 28 [some (.ref r0), some (.int x1), some (.int x2), some (.int x3), z4, z5] (v.toList ++ []) (br_bk h) Q))))) ∧ ((¬ (x1 ≤ (nI 5))) → (Q (some (.int (nI 0))) (br_hp n I L)))))) :
    br_r (d + 1) 29 0 [some (.ref r0), some (.int x1), some (.int x2), some (.int x3), z4, z5] [] (br_hp n I L) Q := br_run_blk br_stops_29 400 ⟨fun z2 => ⟨rfl, (H.1 z2)⟩, fun z2 => ⟨fun z1 => ⟨((H.2 z2).1 z1).1, ⟨((H.2 z2).1 z1).2.1, ((H.2 z2).1 z1).2.2.1, ((H.2 z2).1 z1).2.2.2⟩⟩, fun z1 => ⟨rfl, ((H.2 z2).2 z1)⟩⟩⟩
theorem rb_Law_hold_28 {d n : Nat} {Q : br_Q} {I : Nat → Nat → Int32} {L : Nat → Nat → Int64} {r0 : Nat} {x1 : Int32} {z2 : Option Value} {x3 : Int32} {z4 : Option Value} {z5 : Option Value} {s0 : Int32}
    (H : (br_S0 n r0 = (0, 2)) ∧ (br_r d 26 0 [some (.ref (br_R0 r0 0)), some (.int (x1 - (nI 1)))] [] (br_hp n I L) (fun v h => br_r (d + 1) 29 40 [some (.ref r0), some (.int x1), z2, some (.int x3), some (.int s0), z5] (v.toList ++ []) (br_bk h) Q))) :
    br_r (d + 1) 29 28 [some (.ref r0), some (.int x1), z2, some (.int x3), z4, z5] [(.int s0)] (br_hp n I L) Q := br_run_blk br_stops_29 400 ⟨H.1, H.2⟩
theorem rb_Law_hold_40 {d n : Nat} {Q : br_Q} {I : Nat → Nat → Int32} {L : Nat → Nat → Int64} {z0 : Option Value} {z1 : Option Value} {z2 : Option Value} {x3 : Int32} {x4 : Int32} {z5 : Option Value} {s0 : Int32}
    (H : ((x3 = (nI 0)) → (Q (some (.int ((s0 * x4) / (nI 100)))) (br_hp n I L))) ∧ ((¬ (x3 = (nI 0))) → (Q (some (.int (((s0 * x4) / (nI 100)) / (nI 2)))) (br_hp n I L)))) :
    br_r (d + 1) 29 40 [z0, z1, z2, some (.int x3), some (.int x4), z5] [(.int s0)] (br_hp n I L) Q := br_run_blk br_stops_29 400 ⟨(by decide), ⟨fun z3 => ⟨rfl, (H.1 z3)⟩, fun z3 => ⟨(by decide), ⟨rfl, (H.2 z3)⟩⟩⟩⟩
def br_stops_30 : List Nat := [0]
theorem rb_Math_max_0 {d n : Nat} {Q : br_Q} {I : Nat → Nat → Int32} {L : Nat → Nat → Int64} {x0 : Int32} {x1 : Int32}
    (H : ((x0 < x1) → (Q (some (.int x1)) (br_hp n I L))) ∧ ((¬ (x0 < x1)) → (Q (some (.int x0)) (br_hp n I L)))) :
    br_r d 30 0 [some (.int x0), some (.int x1)] [] (br_hp n I L) Q := br_run_blk br_stops_30 400 ⟨fun z1 => ⟨rfl, (H.1 z1)⟩, fun z1 => ⟨rfl, (H.2 z1)⟩⟩
def br_stops_31 : List Nat := [0, 8, 16, 19]
theorem rb_World_growthOf_0 {d n : Nat} {Q : br_Q} {I : Nat → Nat → Int32} {L : Nat → Nat → Int64} {r1 : Nat} {x2 : Int32} {x3 : Int32}
    (H : br_r d 25 0 [some (.ref 9), some (.ref r1), some (.int x2), some (.int x3)] [] (br_hp n I L) (fun v h => br_r (d + 1) 31 8 [some (.ref 9), some (.ref r1), some (.int x2), some (.int x3)] (v.toList ++ [(.ref r1)]) (br_bk h) Q)) :
    br_r (d + 1) 31 0 [some (.ref 9), some (.ref r1), some (.int x2), some (.int x3)] [] (br_hp n I L) Q := br_run_blk br_stops_31 400 ⟨rfl, H⟩
theorem rb_World_growthOf_8 {d n : Nat} {Q : br_Q} {I : Nat → Nat → Int32} {L : Nat → Nat → Int64} {z1 : Option Value} {x2 : Int32} {z3 : Option Value} {q0 : Nat} {s1 : Int32}
    (H : br_r d 26 0 [some (.ref 15), some (.int x2)] [] (br_hp n I L) (fun v h => br_r (d + 1) 31 16 [some (.ref 9), z1, some (.int x2), z3] (v.toList ++ [(.int s1), (.ref q0)]) (br_bk h) Q)) :
    br_r (d + 1) 31 8 [some (.ref 9), z1, some (.int x2), z3] [(.int s1), (.ref q0)] (br_hp n I L) Q := br_run_blk br_stops_31 400 ⟨rfl, H⟩
theorem rb_World_growthOf_16 {d n : Nat} {Q : br_Q} {I : Nat → Nat → Int32} {L : Nat → Nat → Int64} {z0 : Option Value} {z1 : Option Value} {z2 : Option Value} {z3 : Option Value} {q0 : Nat} {s1 : Int32} {s2 : Int32}
    (H : (br_S0 n q0 = (0, 2)) ∧ (br_r d 32 0 [some (.ref q0), some (.int s1), some (.int s2), none, none] [] (br_hp n I L) (fun v h => br_r (d + 1) 31 19 [z0, z1, z2, z3] (v.toList ++ []) (br_bk h) Q))) :
    br_r (d + 1) 31 16 [z0, z1, z2, z3] [(.int s2), (.int s1), (.ref q0)] (br_hp n I L) Q := br_run_blk br_stops_31 400 ⟨H.1, H.2⟩
theorem rb_World_growthOf_19 {d n : Nat} {Q : br_Q} {I : Nat → Nat → Int32} {L : Nat → Nat → Int64} {z0 : Option Value} {z1 : Option Value} {z2 : Option Value} {z3 : Option Value} {s0 : Int32}
    (H : Q (some (.int s0)) (br_hp n I L)) :
    br_r (d + 1) 31 19 [z0, z1, z2, z3] [(.int s0)] (br_hp n I L) Q := br_run_blk br_stops_31 400 ⟨rfl, H⟩
def br_stops_32 : List Nat := [0, 5, 19, 25]
theorem rb_Law_growth_0 {d n : Nat} {Q : br_Q} {I : Nat → Nat → Int32} {L : Nat → Nat → Int64} {r0 : Nat} {x1 : Int32} {x2 : Int32} {z3 : Option Value} {z4 : Option Value}
    (H : br_r (d + 1) 32 5 [some (.ref r0), some (.int x1), some (.int x2), some (.int (nI 0)), some (.int (nI 0))] [] (br_hp n I L) Q) :
    br_r (d + 1) 32 0 [some (.ref r0), some (.int x1), some (.int x2), z3, z4] [] (br_hp n I L) Q := br_run_blk br_stops_32 400 H
theorem rb_Law_growth_5 {d n : Nat} {Q : br_Q} {I : Nat → Nat → Int32} {L : Nat → Nat → Int64} {r0 : Nat} {x1 : Int32} {x2 : Int32} {x3 : Int32} {x4 : Int32}
    (H : (((nI 3) ≤ x4) → (((¬ x2 = (nI 5)) → (Q (some (.int x3)) (br_hp n I L))) ∧ ((¬ (¬ x2 = (nI 5))) → ((br_S0 n r0 = (0, 2)) ∧ (((br_S0 n (br_R0 r0 0)).1 = 1) ∧ (vp_in (nI 13) (br_S0 n (br_R0 r0 0)).2) ∧ (Q (some (.int (x3 + (I (br_R0 r0 0) 13)))) (br_hp n I L))))))) ∧ ((¬ ((nI 3) ≤ x4)) → ((br_S0 n r0 = (0, 2)) ∧ (br_r d 33 0 [some (.ref r0), some (.int x1), some (.int x4)] [] (br_hp n I L) (fun v h => br_r (d + 1) 32 19 [some (.ref r0), some (.int x1), some (.int x2), some (.int x3), some (.int x4)] (v.toList ++ [(.int x3)]) (br_bk h) Q))))) :
    br_r (d + 1) 32 5 [some (.ref r0), some (.int x1), some (.int x2), some (.int x3), some (.int x4)] [] (br_hp n I L) Q := br_run_blk br_stops_32 400 ⟨fun z2 => ⟨fun z1 => ⟨rfl, ((H.1 z2).1 z1)⟩, fun z1 => ⟨((H.1 z2).2 z1).1, ⟨((H.1 z2).2 z1).2.1, ((H.1 z2).2 z1).2.2.1, ⟨rfl, ((H.1 z2).2 z1).2.2.2⟩⟩⟩⟩, fun z2 => ⟨(H.2 z2).1, (H.2 z2).2⟩⟩
theorem rb_Law_growth_19 {d n : Nat} {Q : br_Q} {I : Nat → Nat → Int32} {L : Nat → Nat → Int64} {r0 : Nat} {x1 : Int32} {x2 : Int32} {z3 : Option Value} {x4 : Int32} {s0 : Int32} {s1 : Int32}
    (H : (br_S0 n r0 = (0, 2)) ∧ (br_r d 34 0 [some (.ref r0), some (.int x4)] [] (br_hp n I L) (fun v h => br_r (d + 1) 32 25 [some (.ref r0), some (.int x1), some (.int x2), z3, some (.int x4)] (v.toList ++ [(.int s1), (.int s0)]) (br_bk h) Q))) :
    br_r (d + 1) 32 19 [some (.ref r0), some (.int x1), some (.int x2), z3, some (.int x4)] [(.int s1), (.int s0)] (br_hp n I L) Q := br_run_blk br_stops_32 400 ⟨H.1, H.2⟩
theorem rb_Law_growth_25 {d n : Nat} {Q : br_Q} {I : Nat → Nat → Int32} {L : Nat → Nat → Int64} {r0 : Nat} {x1 : Int32} {x2 : Int32} {z3 : Option Value} {x4 : Int32} {s0 : Int32} {s1 : Int32} {s2 : Int32}
    (H : br_r (d + 1) 32 5 [some (.ref r0), some (.int x1), some (.int x2), some (.int (s0 + ((s1 * s2) / (nI 100)))), some (.int (x4 + (nI 1)))] [] (br_hp n I L) Q) :
    br_r (d + 1) 32 25 [some (.ref r0), some (.int x1), some (.int x2), z3, some (.int x4)] [(.int s2), (.int s1), (.int s0)] (br_hp n I L) Q := br_run_blk br_stops_32 400 ⟨(by decide), H⟩
def br_stops_33 : List Nat := [0, 11]
theorem rb_Law_gives_0 {d n : Nat} {Q : br_Q} {I : Nat → Nat → Int32} {L : Nat → Nat → Int64} {r0 : Nat} {x1 : Int32} {x2 : Int32}
    (H : (br_S0 n r0 = (0, 2)) ∧ (br_r d 26 0 [some (.ref (br_R0 r0 0)), some (.int ((nI 5) + x2))] [] (br_hp n I L) (fun v h => br_r (d + 1) 33 11 [some (.ref r0), some (.int x1), some (.int x2)] (v.toList ++ [(.int x1)]) (br_bk h) Q))) :
    br_r (d + 1) 33 0 [some (.ref r0), some (.int x1), some (.int x2)] [] (br_hp n I L) Q := br_run_blk br_stops_33 400 ⟨H.1, H.2⟩
theorem rb_Law_gives_11 {d n : Nat} {Q : br_Q} {I : Nat → Nat → Int32} {L : Nat → Nat → Int64} {z0 : Option Value} {z1 : Option Value} {z2 : Option Value} {s0 : Int32} {s1 : Int32}
    (H : Q (some (.int ((s0 * s1) / (nI 10)))) (br_hp n I L)) :
    br_r (d + 1) 33 11 [z0, z1, z2] [(.int s1), (.int s0)] (br_hp n I L) Q := br_run_blk br_stops_33 400 ⟨(by decide), ⟨rfl, H⟩⟩
def br_stops_34 : List Nat := [0, 11]
theorem rb_Law_growsBy_0 {d n : Nat} {Q : br_Q} {I : Nat → Nat → Int32} {L : Nat → Nat → Int64} {r0 : Nat} {x1 : Int32}
    (H : (br_S0 n r0 = (0, 2)) ∧ (br_r d 26 0 [some (.ref (br_R0 r0 0)), some (.int ((nI 8) + x1))] [] (br_hp n I L) (fun v h => br_r (d + 1) 34 11 [some (.ref r0), some (.int x1)] (v.toList ++ []) (br_bk h) Q))) :
    br_r (d + 1) 34 0 [some (.ref r0), some (.int x1)] [] (br_hp n I L) Q := br_run_blk br_stops_34 400 ⟨H.1, H.2⟩
theorem rb_Law_growsBy_11 {d n : Nat} {Q : br_Q} {I : Nat → Nat → Int32} {L : Nat → Nat → Int64} {z0 : Option Value} {z1 : Option Value} {s0 : Int32}
    (H : Q (some (.int s0)) (br_hp n I L)) :
    br_r (d + 1) 34 11 [z0, z1] [(.int s0)] (br_hp n I L) Q := br_run_blk br_stops_34 400 ⟨rfl, H⟩
def br_stops_35 : List Nat := [0, 5, 14, 22, 56, 60]
theorem rb_A_given_0 {d n : Nat} {Q : br_Q} {I : Nat → Nat → Int32} {L : Nat → Nat → Int64} {x1 : Int32} {x2 : Int32}
    (H : br_r d 22 0 [some (.ref 8), some (.int x1)] [] (br_hp n I L) (fun v h => br_r (d + 1) 35 5 [some (.ref 8), some (.int x1), some (.int x2)] (v.toList ++ []) (br_bk h) Q)) :
    br_r (d + 1) 35 0 [some (.ref 8), some (.int x1), some (.int x2)] [] (br_hp n I L) Q := br_run_blk br_stops_35 400 ⟨rfl, H⟩
theorem rb_A_given_5 {d n : Nat} {Q : br_Q} {I : Nat → Nat → Int32} {L : Nat → Nat → Int64} {x1 : Int32} {x2 : Int32} {s0 : Int32}
    (H : ((¬ s0 = (nI 0)) → (br_r d 17 0 [some (.ref 8), some (.int (nI 2))] [] (br_hp n I L) (fun v h => br_r (d + 1) 35 22 [some (.ref 8), some (.int x1), some (.int x2)] (v.toList ++ []) (br_bk h) Q))) ∧ ((¬ (¬ s0 = (nI 0))) → (br_r d 16 0 [some (.int x2), some (.int (nI 0)), some (.int (nI 2))] [] (br_hp n I L) (fun v h => br_r (d + 1) 35 14 [some (.ref 8), some (.int x1), some (.int x2)] (v.toList ++ []) (br_bk h) Q)))) :
    br_r (d + 1) 35 5 [some (.ref 8), some (.int x1), some (.int x2)] [(.int s0)] (br_hp n I L) Q := br_run_blk br_stops_35 400 ⟨fun z1 => ⟨rfl, (H.1 z1)⟩, fun z1 => (H.2 z1)⟩
theorem rb_A_given_14 {d n : Nat} {Q : br_Q} {I : Nat → Nat → Int32} {L : Nat → Nat → Int64} {x1 : Int32} {x2 : Int32} {s0 : Int32}
    (H : ((s0 = (nI 0)) → (br_r d 25 0 [some (.ref 9), some (.ref 25), some (.int x1), some (.int (I 9 9))] [] (br_hp n I L) (fun v h => br_r (d + 1) 35 56 [some (.ref 8), some (.int x1), some (.int x2)] (v.toList ++ [(.ref 25)]) (br_bk h) Q))) ∧ ((¬ (s0 = (nI 0))) → (br_r d 17 0 [some (.ref 8), some (.int (nI 2))] [] (br_hp n I L) (fun v h => br_r (d + 1) 35 22 [some (.ref 8), some (.int x1), some (.int x2)] (v.toList ++ []) (br_bk h) Q)))) :
    br_r (d + 1) 35 14 [some (.ref 8), some (.int x1), some (.int x2)] [(.int s0)] (br_hp n I L) Q := br_run_blk br_stops_35 400 ⟨fun z2 => ⟨rfl, ⟨rfl, ⟨rfl, ⟨rfl, ⟨rfl, ⟨rfl, ⟨rfl, ⟨rfl, (H.1 z2)⟩⟩⟩⟩⟩⟩⟩⟩, fun z2 => ⟨rfl, (H.2 z2)⟩⟩
theorem rb_A_given_22 {d n : Nat} {Q : br_Q} {I : Nat → Nat → Int32} {L : Nat → Nat → Int64} {z0 : Option Value} {z1 : Option Value} {z2 : Option Value} {s0 : Int32}
    (H : Q (some (.int (-(nI 1000)))) (br_hp n I L)) :
    br_r (d + 1) 35 22 [z0, z1, z2] [(.int s0)] (br_hp n I L) Q := br_run_blk br_stops_35 400 ⟨rfl, H⟩
theorem rb_A_given_56 {d n : Nat} {Q : br_Q} {I : Nat → Nat → Int32} {L : Nat → Nat → Int64} {z0 : Option Value} {z1 : Option Value} {x2 : Int32} {s1 : Int32}
    (H : br_r d 33 0 [some (.ref 25), some (.int s1), some (.int x2)] [] (br_hp n I L) (fun v h => br_r (d + 1) 35 60 [z0, z1, some (.int x2)] (v.toList ++ []) (br_bk h) Q)) :
    br_r (d + 1) 35 56 [z0, z1, some (.int x2)] [(.int s1), (.ref 25)] (br_hp n I L) Q := br_run_blk br_stops_35 400 ⟨rfl, H⟩
theorem rb_A_given_60 {d n : Nat} {Q : br_Q} {I : Nat → Nat → Int32} {L : Nat → Nat → Int64} {z0 : Option Value} {z1 : Option Value} {z2 : Option Value} {s0 : Int32}
    (H : Q (some (.int s0)) (br_hp n I L)) :
    br_r (d + 1) 35 60 [z0, z1, z2] [(.int s0)] (br_hp n I L) Q := br_run_blk br_stops_35 400 ⟨rfl, H⟩
def br_stops_36 : List Nat := [0, 28, 35, 41, 47, 54, 61]
theorem rb_A_feed_0 {d n : Nat} {Q : br_Q} {I : Nat → Nat → Int32} {L : Nat → Nat → Int64} {x1 : Int32} {x2 : Int32} {x3 : Int32} {x4 : Int32} {x5 : Int32} {z6 : Option Value}
    (H : ((((I 55 1) + (nI 20)) ≤ (nI 400)) → (br_r d 37 0 [some (.ref 55), some (.int x1), none] [] (br_hp n I L) (fun v h => br_r (d + 1) 36 35 [some (.ref 8), some (.int x1), some (.int x2), some (.int x3), some (.int x4), some (.int x5), some (.ref 55)] (v.toList ++ []) (br_bk h) Q))) ∧ ((¬ (((I 55 1) + (nI 20)) ≤ (nI 400))) → (br_r d 17 0 [some (.ref 8), some (.int (nI 4))] [] (br_hp n I L) (fun v h => br_r (d + 1) 36 28 [some (.ref 8), some (.int x1), some (.int x2), some (.int x3), some (.int x4), some (.int x5), some (.ref 55)] (v.toList ++ []) (br_bk h) Q)))) :
    br_r (d + 1) 36 0 [some (.ref 8), some (.int x1), some (.int x2), some (.int x3), some (.int x4), some (.int x5), z6] [] (br_hp n I L) Q := br_run_blk br_stops_36 400 ⟨rfl, ⟨rfl, ⟨rfl, ⟨fun z1 => ⟨rfl, (H.1 z1)⟩, fun z1 => ⟨rfl, (H.2 z1)⟩⟩⟩⟩⟩
theorem rb_A_feed_28 {d n : Nat} {Q : br_Q} {I : Nat → Nat → Int32} {L : Nat → Nat → Int64} {z0 : Option Value} {z1 : Option Value} {z2 : Option Value} {z3 : Option Value} {z4 : Option Value} {z5 : Option Value} {z6 : Option Value} {s0 : Int32}
    (H : Q (some (.int s0)) (br_hp n I L)) :
    br_r (d + 1) 36 28 [z0, z1, z2, z3, z4, z5, z6] [(.int s0)] (br_hp n I L) Q := br_run_blk br_stops_36 400 ⟨rfl, H⟩
theorem rb_A_feed_35 {d n : Nat} {Q : br_Q} {I : Nat → Nat → Int32} {L : Nat → Nat → Int64} {z0 : Option Value} {z1 : Option Value} {x2 : Int32} {x3 : Int32} {x4 : Int32} {x5 : Int32}
    (H : br_r d 37 0 [some (.ref 55), some (.int x2), none] [] (br_hp n I L) (fun v h => br_r (d + 1) 36 41 [z0, z1, some (.int x2), some (.int x3), some (.int x4), some (.int x5), some (.ref 55)] (v.toList ++ []) (br_bk h) Q)) :
    br_r (d + 1) 36 35 [z0, z1, some (.int x2), some (.int x3), some (.int x4), some (.int x5), some (.ref 55)] [] (br_hp n I L) Q := br_run_blk br_stops_36 400 ⟨rfl, H⟩
theorem rb_A_feed_41 {d n : Nat} {Q : br_Q} {I : Nat → Nat → Int32} {L : Nat → Nat → Int64} {z0 : Option Value} {z1 : Option Value} {z2 : Option Value} {x3 : Int32} {x4 : Int32} {x5 : Int32}
    (H : br_r d 37 0 [some (.ref 55), some (.int x3), none] [] (br_hp n I L) (fun v h => br_r (d + 1) 36 47 [z0, z1, z2, some (.int x3), some (.int x4), some (.int x5), some (.ref 55)] (v.toList ++ []) (br_bk h) Q)) :
    br_r (d + 1) 36 41 [z0, z1, z2, some (.int x3), some (.int x4), some (.int x5), some (.ref 55)] [] (br_hp n I L) Q := br_run_blk br_stops_36 400 ⟨rfl, H⟩
theorem rb_A_feed_47 {d n : Nat} {Q : br_Q} {I : Nat → Nat → Int32} {L : Nat → Nat → Int64} {z0 : Option Value} {z1 : Option Value} {z2 : Option Value} {z3 : Option Value} {x4 : Int32} {x5 : Int32}
    (H : br_r d 37 0 [some (.ref 55), some (.int x4), none] [] (br_hp n I L) (fun v h => br_r (d + 1) 36 54 [z0, z1, z2, z3, some (.int x4), some (.int x5), some (.ref 55)] (v.toList ++ []) (br_bk h) Q)) :
    br_r (d + 1) 36 47 [z0, z1, z2, z3, some (.int x4), some (.int x5), some (.ref 55)] [] (br_hp n I L) Q := br_run_blk br_stops_36 400 ⟨rfl, H⟩
theorem rb_A_feed_54 {d n : Nat} {Q : br_Q} {I : Nat → Nat → Int32} {L : Nat → Nat → Int64} {z0 : Option Value} {z1 : Option Value} {z2 : Option Value} {z3 : Option Value} {z4 : Option Value} {x5 : Int32}
    (H : br_r d 37 0 [some (.ref 55), some (.int x5), none] [] (br_hp n I L) (fun v h => br_r (d + 1) 36 61 [z0, z1, z2, z3, z4, some (.int x5), some (.ref 55)] (v.toList ++ []) (br_bk h) Q)) :
    br_r (d + 1) 36 54 [z0, z1, z2, z3, z4, some (.int x5), some (.ref 55)] [] (br_hp n I L) Q := br_run_blk br_stops_36 400 ⟨rfl, H⟩
theorem rb_A_feed_61 {d n : Nat} {Q : br_Q} {I : Nat → Nat → Int32} {L : Nat → Nat → Int64} {z0 : Option Value} {z1 : Option Value} {z2 : Option Value} {z3 : Option Value} {z4 : Option Value} {z5 : Option Value}
    (H : Q (some (.int (I 55 1))) (br_hp n I L)) :
    br_r (d + 1) 36 61 [z0, z1, z2, z3, z4, z5, some (.ref 55)] [] (br_hp n I L) Q := br_run_blk br_stops_36 400 ⟨rfl, ⟨rfl, H⟩⟩
def br_stops_37 : List Nat := [0, 3]
theorem rb_Tokens_append_0 {d n : Nat} {Q : br_Q} {I : Nat → Nat → Int32} {L : Nat → Nat → Int64} {x1 : Int32} {z2 : Option Value}
    (H : br_r d 37 3 [some (.ref 55), some (.int x1), some (.int (nI 24))] [] (br_hp n I L) Q) :
    br_r d 37 0 [some (.ref 55), some (.int x1), z2] [] (br_hp n I L) Q := br_run_blk br_stops_37 400 H
theorem rb_Tokens_append_3 {d n : Nat} {Q : br_Q} {I : Nat → Nat → Int32} {L : Nat → Nat → Int64} {x1 : Int32} {x2 : Int32}
    (H : ((x2 < (nI 0)) → (Q none (br_hp n I L))) ∧ ((¬ (x2 < (nI 0))) → ((((nI 400) ≤ (I 55 1)) → (br_r d 37 3 [some (.ref 55), some (.int x1), some (.int (x2 + (-(nI 8))))] [] (br_hp n I L) Q)) ∧ ((¬ ((nI 400) ≤ (I 55 1))) → ((vp_in (I 55 1) 400) ∧ (br_r d 37 3 [some (.ref 55), some (.int x1), some (.int (x2 + (-(nI 8))))] [] (br_hp n (br_u (br_u I 56 (I 55 1).toNatClampNeg (vp_nar .byte ((x1 >>> (x2 &&& 31)).toInt8.toInt32))) 55 1 (((br_u I 56 (I 55 1).toNatClampNeg (vp_nar .byte ((x1 >>> (x2 &&& 31)).toInt8.toInt32))) 55 1) + (nI 1))) L) Q)))))) :
    br_r d 37 3 [some (.ref 55), some (.int x1), some (.int x2)] [] (br_hp n I L) Q := br_run_blk br_stops_37 400 ⟨fun z2 => ⟨rfl, (H.1 z2)⟩, fun z2 => ⟨rfl, ⟨rfl, ⟨rfl, ⟨fun z1 => ((H.2 z2).1 z1), fun z1 => ⟨rfl, ⟨rfl, ⟨(Nat.le_of_ble_eq_true rfl), ((H.2 z2).2 z1).1, Or.inr ⟨rfl, ⟨rfl, ⟨rfl, ((H.2 z2).2 z1).2⟩⟩⟩⟩⟩⟩⟩⟩⟩⟩⟩
def br_stops_38 : List Nat := [0, 6, 14, 30, 38, 51, 62, 83, 116, 144]
theorem rb_A_text_0 {d n : Nat} {Q : br_Q} {I : Nat → Nat → Int32} {L : Nat → Nat → Int64} {x1 : Int32} {x2 : Int32} {z3 : Option Value}
    (H : br_r d 16 0 [some (.int x1), some (.int (nI 0)), some (.int (nI 1))] [] (br_hp n I L) (fun v h => br_r (d + 1) 38 6 [some (.ref 8), some (.int x1), some (.int x2), z3] (v.toList ++ []) (br_bk h) Q)) :
    br_r (d + 1) 38 0 [some (.ref 8), some (.int x1), some (.int x2), z3] [] (br_hp n I L) Q := br_run_blk br_stops_38 400 H
theorem rb_A_text_6 {d n : Nat} {Q : br_Q} {I : Nat → Nat → Int32} {L : Nat → Nat → Int64} {x1 : Int32} {x2 : Int32} {z3 : Option Value} {s0 : Int32}
    (H : ((s0 = (nI 0)) → (br_r d 16 0 [some (.int x2), some (.int (nI 0)), some (.int (I 55 1))] [] (br_hp n I L) (fun v h => br_r (d + 1) 38 30 [some (.ref 8), some (.int x1), some (.int x2), z3] (v.toList ++ []) (br_bk h) Q))) ∧ ((¬ (s0 = (nI 0))) → (br_r d 17 0 [some (.ref 8), some (.int (nI 2))] [] (br_hp n I L) (fun v h => br_r (d + 1) 38 14 [some (.ref 8), some (.int x1), some (.int x2), z3] (v.toList ++ []) (br_bk h) Q)))) :
    br_r (d + 1) 38 6 [some (.ref 8), some (.int x1), some (.int x2), z3] [(.int s0)] (br_hp n I L) Q := br_run_blk br_stops_38 400 ⟨fun z1 => ⟨rfl, ⟨rfl, ⟨rfl, (H.1 z1)⟩⟩⟩, fun z1 => ⟨rfl, (H.2 z1)⟩⟩
theorem rb_A_text_14 {d n : Nat} {Q : br_Q} {I : Nat → Nat → Int32} {L : Nat → Nat → Int64} {z0 : Option Value} {z1 : Option Value} {z2 : Option Value} {z3 : Option Value} {s0 : Int32}
    (H : Q (some (.int s0)) (br_hp n I L)) :
    br_r (d + 1) 38 14 [z0, z1, z2, z3] [(.int s0)] (br_hp n I L) Q := br_run_blk br_stops_38 400 ⟨rfl, H⟩
theorem rb_A_text_30 {d n : Nat} {Q : br_Q} {I : Nat → Nat → Int32} {L : Nat → Nat → Int64} {x1 : Int32} {x2 : Int32} {z3 : Option Value} {s0 : Int32}
    (H : ((s0 = (nI 0)) → (((¬ x1 = (nI 0)) → (br_r d 70 0 [some (.ref 54), some (.int x2), none] [] (br_hp n I L) (fun v h => br_r (d + 1) 38 62 [some (.ref 8), some (.int x1), some (.int x2), z3] (v.toList ++ []) (br_bk h) Q))) ∧ ((¬ (¬ x1 = (nI 0))) → (br_r d 39 0 [some (.ref 54), some (.int x2), none] [] (br_hp n I L) (fun v h => br_r (d + 1) 38 51 [some (.ref 8), some (.int x1), some (.int x2), z3] (v.toList ++ []) (br_bk h) Q))))) ∧ ((¬ (s0 = (nI 0))) → (br_r d 17 0 [some (.ref 8), some (.int (nI 3))] [] (br_hp n I L) (fun v h => br_r (d + 1) 38 38 [some (.ref 8), some (.int x1), some (.int x2), z3] (v.toList ++ []) (br_bk h) Q)))) :
    br_r (d + 1) 38 30 [some (.ref 8), some (.int x1), some (.int x2), z3] [(.int s0)] (br_hp n I L) Q := br_run_blk br_stops_38 400 ⟨fun z3 => ⟨fun z2 => ⟨rfl, ⟨rfl, ((H.1 z3).1 z2)⟩⟩, fun z2 => ⟨rfl, ⟨rfl, ((H.1 z3).2 z2)⟩⟩⟩, fun z3 => ⟨rfl, (H.2 z3)⟩⟩
theorem rb_A_text_38 {d n : Nat} {Q : br_Q} {I : Nat → Nat → Int32} {L : Nat → Nat → Int64} {z0 : Option Value} {z1 : Option Value} {z2 : Option Value} {z3 : Option Value} {s0 : Int32}
    (H : Q (some (.int s0)) (br_hp n I L)) :
    br_r (d + 1) 38 38 [z0, z1, z2, z3] [(.int s0)] (br_hp n I L) Q := br_run_blk br_stops_38 400 ⟨rfl, H⟩
theorem rb_A_text_51 {d n : Nat} {Q : br_Q} {I : Nat → Nat → Int32} {L : Nat → Nat → Int64} {x1 : Int32} {z2 : Option Value} {z3 : Option Value} {s0 : Int32}
    (H : br_r (d + 1) 38 62 [some (.ref 8), some (.int x1), z2, z3] [(.int s0)] (br_hp n I L) Q) :
    br_r (d + 1) 38 51 [some (.ref 8), some (.int x1), z2, z3] [(.int s0)] (br_hp n I L) Q := br_run_blk br_stops_38 400 H
theorem rb_A_text_62 {d n : Nat} {Q : br_Q} {I : Nat → Nat → Int32} {L : Nat → Nat → Int64} {x1 : Int32} {z2 : Option Value} {z3 : Option Value} {s0 : Int32}
    (H : ((¬ s0 = (nI 0)) → (((¬ x1 = (nI 0)) → (br_r d 77 0 [some (.ref 29), some (.ref 62)] [] (br_hp n (br_u I 55 1 (nI 0)) L) (fun v h => br_r (d + 1) 38 144 [some (.ref 8), some (.int x1), (br_kl z2), some (.int s0)] (v.toList ++ []) (br_bk h) Q))) ∧ ((¬ (¬ x1 = (nI 0))) → (br_r d 76 0 [some (.ref 25), some (.ref 60)] [] (br_hp n (br_u I 55 1 (nI 0)) L) (fun v h => br_r (d + 1) 38 116 [some (.ref 8), some (.int x1), (br_kl z2), some (.int s0)] (v.toList ++ []) (br_bk h) Q))))) ∧ ((¬ (¬ s0 = (nI 0))) → (br_r d 17 0 [some (.ref 8), some (.int (nI 1))] [] (br_hp n (br_u I 55 1 (nI 0)) L) (fun v h => br_r (d + 1) 38 83 [some (.ref 8), some (.int x1), (br_kl z2), some (.int s0)] (v.toList ++ []) (br_bk h) Q)))) :
    br_r (d + 1) 38 62 [some (.ref 8), some (.int x1), z2, z3] [(.int s0)] (br_hp n I L) Q := br_run_blk br_stops_38 400 ⟨rfl, ⟨rfl, ⟨rfl, ⟨fun z5 => ⟨fun z4 => ⟨rfl, ⟨rfl, ⟨rfl, ⟨rfl, ⟨rfl, ((H.1 z5).1 z4)⟩⟩⟩⟩⟩, fun z4 => ⟨rfl, ⟨rfl, ⟨rfl, ⟨rfl, ⟨rfl, ((H.1 z5).2 z4)⟩⟩⟩⟩⟩⟩, fun z5 => ⟨rfl, (H.2 z5)⟩⟩⟩⟩⟩
theorem rb_A_text_83 {d n : Nat} {Q : br_Q} {I : Nat → Nat → Int32} {L : Nat → Nat → Int64} {z1 : Option Value} {z2 : Option Value} {z3 : Option Value} {s0 : Int32}
    (H : Q (some (.int ((-(nI 10)) - (I 54 3)))) (br_hp n I L)) :
    br_r (d + 1) 38 83 [some (.ref 8), z1, z2, z3] [(.int s0)] (br_hp n I L) Q := br_run_blk br_stops_38 400 ⟨rfl, ⟨rfl, ⟨rfl, H⟩⟩⟩
theorem rb_A_text_116 {d n : Nat} {Q : br_Q} {I : Nat → Nat → Int32} {L : Nat → Nat → Int64} {z1 : Option Value} {z2 : Option Value} {z3 : Option Value}
    (H : Q (some (.int (I 25 1))) (br_hp n I L)) :
    br_r (d + 1) 38 116 [some (.ref 8), z1, z2, z3] [] (br_hp n I L) Q := br_run_blk br_stops_38 400 ⟨rfl, ⟨rfl, ⟨rfl, ⟨rfl, H⟩⟩⟩⟩
theorem rb_A_text_144 {d n : Nat} {Q : br_Q} {I : Nat → Nat → Int32} {L : Nat → Nat → Int64} {z1 : Option Value} {z2 : Option Value} {z3 : Option Value}
    (H : Q (some (.int (I 29 2))) (br_hp n I L)) :
    br_r (d + 1) 38 144 [some (.ref 8), z1, z2, z3] [] (br_hp n I L) Q := br_run_blk br_stops_38 400 ⟨rfl, ⟨rfl, ⟨rfl, ⟨rfl, H⟩⟩⟩⟩
def br_stops_39 : List Nat := [0, 5, 12, 14, 75, 87, 92, 101]
theorem rb_Reader_readLaw_0 {d n : Nat} {Q : br_Q} {I : Nat → Nat → Int32} {L : Nat → Nat → Int64} {x1 : Int32} {z2 : Option Value}
    (H : br_r d 40 0 [some (.ref 54), some (.int x1)] [] (br_hp n I L) (fun v h => br_r (d + 1) 39 5 [some (.ref 54), some (.int x1), z2] (v.toList ++ []) (br_bk h) Q)) :
    br_r (d + 1) 39 0 [some (.ref 54), some (.int x1), z2] [] (br_hp n I L) Q := br_run_blk br_stops_39 400 ⟨rfl, H⟩
theorem rb_Reader_readLaw_5 {d n : Nat} {Q : br_Q} {I : Nat → Nat → Int32} {L : Nat → Nat → Int64} {z1 : Option Value} {z2 : Option Value}
    (H : br_r d 4 0 [some (.ref 60)] [] (br_hp n I L) (fun v h => br_r (d + 1) 39 12 [some (.ref 54), z1, z2] (v.toList ++ []) (br_bk h) Q)) :
    br_r (d + 1) 39 5 [some (.ref 54), z1, z2] [] (br_hp n I L) Q := br_run_blk br_stops_39 400 ⟨rfl, ⟨rfl, H⟩⟩
theorem rb_Reader_readLaw_12 {d n : Nat} {Q : br_Q} {I : Nat → Nat → Int32} {L : Nat → Nat → Int64} {z1 : Option Value} {z2 : Option Value}
    (H : br_r (d + 1) 39 14 [some (.ref 54), (br_kl z1), some (.int (nI 0))] [] (br_hp n I L) Q) :
    br_r (d + 1) 39 12 [some (.ref 54), z1, z2] [] (br_hp n I L) Q := br_run_blk br_stops_39 400 H
theorem rb_Reader_readLaw_14 {d n : Nat} {Q : br_Q} {I : Nat → Nat → Int32} {L : Nat → Nat → Int64} {z1 : Option Value} {x2 : Int32}
    (H : (((nI 30) < x2) → (Q (some (.int (nI 0))) (br_hp n I L))) ∧ ((¬ ((nI 30) < x2)) → (((¬ (I 55 8) = (nI 42)) → ((((nI 17) < (I 55 8)) → (br_r d 63 0 [some (.ref 54), some (.int (nI 2))] [] (br_hp n I L) (fun v h => br_r (d + 1) 39 75 [some (.ref 54), z1, some (.int x2)] (v.toList ++ []) (br_bk h) Q))) ∧ ((¬ ((nI 17) < (I 55 8))) → ((((I 55 8) < (nI 8)) → (((¬ x2 = (nI 30)) → (br_r d 64 0 [some (.ref 54), none] [] (br_hp n I L) (fun v h => br_r (d + 1) 39 92 [some (.ref 54), z1, some (.int x2)] (v.toList ++ []) (br_bk h) Q))) ∧ ((¬ (¬ x2 = (nI 30))) → (br_r d 63 0 [some (.ref 54), some (.int (nI 4))] [] (br_hp n I L) (fun v h => br_r (d + 1) 39 87 [some (.ref 54), z1, some (.int x2)] (v.toList ++ []) (br_bk h) Q))))) ∧ ((¬ ((I 55 8) < (nI 8))) → ((((nI 10) < (I 55 8)) → (((¬ x2 = (nI 30)) → (br_r d 64 0 [some (.ref 54), none] [] (br_hp n I L) (fun v h => br_r (d + 1) 39 92 [some (.ref 54), z1, some (.int x2)] (v.toList ++ []) (br_bk h) Q))) ∧ ((¬ (¬ x2 = (nI 30))) → (br_r d 63 0 [some (.ref 54), some (.int (nI 4))] [] (br_hp n I L) (fun v h => br_r (d + 1) 39 87 [some (.ref 54), z1, some (.int x2)] (v.toList ++ []) (br_bk h) Q))))) ∧ ((¬ ((nI 10) < (I 55 8))) → (br_r d 63 0 [some (.ref 54), some (.int (nI 2))] [] (br_hp n I L) (fun v h => br_r (d + 1) 39 75 [some (.ref 54), z1, some (.int x2)] (v.toList ++ []) (br_bk h) Q))))))))) ∧ ((¬ (¬ (I 55 8) = (nI 42))) → (Q (some (.int (nI 1))) (br_hp n I L)))))) :
    br_r (d + 1) 39 14 [some (.ref 54), z1, some (.int x2)] [] (br_hp n I L) Q := br_run_blk br_stops_39 400 ⟨fun z7 => ⟨rfl, Or.inl rfl, (H.1 z7)⟩, fun z7 => ⟨rfl, ⟨rfl, ⟨fun z6 => ⟨rfl, ⟨rfl, ⟨fun z5 => ⟨rfl, (((H.2 z7).1 z6).1 z5)⟩, fun z5 => ⟨rfl, ⟨rfl, ⟨fun z4 => ⟨fun z1 => ⟨rfl, (((((H.2 z7).1 z6).2 z5).1 z4).1 z1)⟩, fun z1 => ⟨rfl, (((((H.2 z7).1 z6).2 z5).1 z4).2 z1)⟩⟩, fun z4 => ⟨rfl, ⟨rfl, ⟨fun z3 => ⟨fun z2 => ⟨rfl, ((((((H.2 z7).1 z6).2 z5).2 z4).1 z3).1 z2)⟩, fun z2 => ⟨rfl, ((((((H.2 z7).1 z6).2 z5).2 z4).1 z3).2 z2)⟩⟩, fun z3 => ⟨rfl, (((((H.2 z7).1 z6).2 z5).2 z4).2 z3)⟩⟩⟩⟩⟩⟩⟩⟩⟩⟩, fun z6 => ⟨rfl, Or.inr rfl, ((H.2 z7).2 z6)⟩⟩⟩⟩⟩
theorem rb_Reader_readLaw_75 {d n : Nat} {Q : br_Q} {I : Nat → Nat → Int32} {L : Nat → Nat → Int64} {z0 : Option Value} {z1 : Option Value} {z2 : Option Value} {s0 : Int32}
    (H : (s0 = 0 ∨ s0 = 1) ∧ Q (some (.int s0)) (br_hp n I L)) :
    br_r (d + 1) 39 75 [z0, z1, z2] [(.int s0)] (br_hp n I L) Q := br_run_blk br_stops_39 400 ⟨rfl, H⟩
theorem rb_Reader_readLaw_87 {d n : Nat} {Q : br_Q} {I : Nat → Nat → Int32} {L : Nat → Nat → Int64} {z0 : Option Value} {z1 : Option Value} {z2 : Option Value} {s0 : Int32}
    (H : (s0 = 0 ∨ s0 = 1) ∧ Q (some (.int s0)) (br_hp n I L)) :
    br_r (d + 1) 39 87 [z0, z1, z2] [(.int s0)] (br_hp n I L) Q := br_run_blk br_stops_39 400 ⟨rfl, H⟩
theorem rb_Reader_readLaw_92 {d n : Nat} {Q : br_Q} {I : Nat → Nat → Int32} {L : Nat → Nat → Int64} {z1 : Option Value} {x2 : Int32} {s0 : Int32}
    (H : ((s0 = (nI 0)) → (Q (some (.int (nI 0))) (br_hp n I L))) ∧ ((¬ (s0 = (nI 0))) → (br_r d 66 0 [some (.ref 54), some (.int (nI 44))] [] (br_hp n I L) (fun v h => br_r (d + 1) 39 101 [some (.ref 54), z1, some (.int x2)] (v.toList ++ []) (br_bk h) Q)))) :
    br_r (d + 1) 39 92 [some (.ref 54), z1, some (.int x2)] [(.int s0)] (br_hp n I L) Q := br_run_blk br_stops_39 400 ⟨fun z8 => ⟨rfl, Or.inl rfl, (H.1 z8)⟩, fun z8 => ⟨rfl, (H.2 z8)⟩⟩
theorem rb_Reader_readLaw_101 {d n : Nat} {Q : br_Q} {I : Nat → Nat → Int32} {L : Nat → Nat → Int64} {z1 : Option Value} {x2 : Int32} {s0 : Int32}
    (H : ((¬ s0 = (nI 0)) → (br_r (d + 1) 39 14 [some (.ref 54), (br_kl z1), some (.int (x2 + (nI 1)))] [] (br_hp n (br_u I 60 1 ((I 60 1) + (nI 1))) L) Q)) ∧ ((¬ (¬ s0 = (nI 0))) → (Q (some (.int (nI 0))) (br_hp n I L)))) :
    br_r (d + 1) 39 101 [some (.ref 54), z1, some (.int x2)] [(.int s0)] (br_hp n I L) Q := br_run_blk br_stops_39 400 ⟨fun z9 => ⟨rfl, ⟨rfl, ⟨rfl, (H.1 z9)⟩⟩⟩, fun z9 => ⟨rfl, Or.inl rfl, (H.2 z9)⟩⟩
def br_stops_40 : List Nat := [0, 18]
theorem rb_Reader_begin_0 {d n : Nat} {Q : br_Q} {I : Nat → Nat → Int32} {L : Nat → Nat → Int64} {x1 : Int32}
    (H : br_r d 41 0 [some (.ref 55), some (.int x1), none, none, none] [] (br_hp n (br_u (br_u I 54 3 (nI 0)) 54 4 (-(nI 1))) L) (fun v h => br_r (d + 1) 40 18 [some (.ref 54), some (.int x1)] (v.toList ++ []) (br_bk h) Q)) :
    br_r (d + 1) 40 0 [some (.ref 54), some (.int x1)] [] (br_hp n I L) Q := br_run_blk br_stops_40 400 ⟨rfl, ⟨rfl, ⟨rfl, ⟨rfl, H⟩⟩⟩⟩
theorem rb_Reader_begin_18 {d n : Nat} {Q : br_Q} {I : Nat → Nat → Int32} {L : Nat → Nat → Int64} {z0 : Option Value} {z1 : Option Value}
    (H : Q none (br_hp n I L)) :
    br_r (d + 1) 40 18 [z0, z1] [] (br_hp n I L) Q := br_run_blk br_stops_40 400 ⟨rfl, H⟩
def br_stops_41 : List Nat := [0, 10, 13, 25, 45, 52, 62, 74, 92]
theorem rb_Tokens_start_0 {d n : Nat} {Q : br_Q} {I : Nat → Nat → Int32} {L : Nat → Nat → Int64} {x1 : Int32} {z2 : Option Value} {z3 : Option Value} {z4 : Option Value}
    (H : br_r d 42 0 [some (.int x1), some (.int (I 55 1))] [] (br_hp n I L) (fun v h => br_r (d + 1) 41 10 [some (.ref 55), some (.int x1), z2, z3, z4] (v.toList ++ [(.int (nI 0)), (.ref 55)]) (br_bk h) Q)) :
    br_r (d + 1) 41 0 [some (.ref 55), some (.int x1), z2, z3, z4] [] (br_hp n I L) Q := br_run_blk br_stops_41 400 ⟨rfl, H⟩
theorem rb_Tokens_start_10 {d n : Nat} {Q : br_Q} {I : Nat → Nat → Int32} {L : Nat → Nat → Int64} {z1 : Option Value} {z2 : Option Value} {z3 : Option Value} {z4 : Option Value} {s1 : Int32} {s2 : Int32}
    (H : br_r d 30 0 [some (.int s1), some (.int s2)] [] (br_hp n I L) (fun v h => br_r (d + 1) 41 13 [some (.ref 55), z1, z2, z3, z4] (v.toList ++ [(.ref 55)]) (br_bk h) Q)) :
    br_r (d + 1) 41 10 [some (.ref 55), z1, z2, z3, z4] [(.int s2), (.int s1), (.ref 55)] (br_hp n I L) Q := br_run_blk br_stops_41 400 H
theorem rb_Tokens_start_13 {d n : Nat} {Q : br_Q} {I : Nat → Nat → Int32} {L : Nat → Nat → Int64} {z1 : Option Value} {z2 : Option Value} {z3 : Option Value} {z4 : Option Value} {s1 : Int32}
    (H : br_r (d + 1) 41 25 [some (.ref 55), (br_kl z1), some (.int (nI 0)), some (.int (nI 0)), z4] [] (br_hp n (br_u (br_u I 55 6 s1) 55 5 (nI 0)) L) Q) :
    br_r (d + 1) 41 13 [some (.ref 55), z1, z2, z3, z4] [(.int s1), (.ref 55)] (br_hp n I L) Q := br_run_blk br_stops_41 400 ⟨rfl, ⟨rfl, H⟩⟩
theorem rb_Tokens_start_25 {d n : Nat} {Q : br_Q} {I : Nat → Nat → Int32} {L : Nat → Nat → Int64} {z1 : Option Value} {x2 : Int32} {x3 : Int32} {z4 : Option Value}
    (H : (((nI 400) < x3) → (br_r d 62 0 [some (.ref 55), none] [] (br_hp n (br_u I 55 7 (-(nI 1))) L) (fun v h => br_r (d + 1) 41 92 [some (.ref 55), z1, some (.int x2), some (.int x3), z4] (v.toList ++ []) (br_bk h) Q))) ∧ ((¬ ((nI 400) < x3)) → ((((I 55 6) ≤ x2) → (br_r d 62 0 [some (.ref 55), none] [] (br_hp n (br_u I 55 7 (-(nI 1))) L) (fun v h => br_r (d + 1) 41 92 [some (.ref 55), z1, some (.int x2), some (.int x3), z4] (v.toList ++ []) (br_bk h) Q))) ∧ ((¬ ((I 55 6) ≤ x2)) → (br_r d 43 0 [some (.ref 55), some (.int x2), none] [] (br_hp n I L) (fun v h => br_r (d + 1) 41 45 [some (.ref 55), z1, some (.int x2), some (.int x3), z4] (v.toList ++ []) (br_bk h) Q)))))) :
    br_r (d + 1) 41 25 [some (.ref 55), z1, some (.int x2), some (.int x3), z4] [] (br_hp n I L) Q := br_run_blk br_stops_41 400 ⟨fun z2 => ⟨rfl, ⟨rfl, (H.1 z2)⟩⟩, fun z2 => ⟨rfl, ⟨fun z1 => ⟨rfl, ⟨rfl, ((H.2 z2).1 z1)⟩⟩, fun z1 => ⟨rfl, ((H.2 z2).2 z1)⟩⟩⟩⟩
theorem rb_Tokens_start_45 {d n : Nat} {Q : br_Q} {I : Nat → Nat → Int32} {L : Nat → Nat → Int64} {z1 : Option Value} {x2 : Int32} {x3 : Int32} {z4 : Option Value} {s0 : Int32}
    (H : br_r d 44 0 [some (.ref 55), some (.int x2)] [] (br_hp n I L) (fun v h => br_r (d + 1) 41 52 [some (.ref 55), z1, some (.int x2), some (.int x3), some (.int s0)] (v.toList ++ []) (br_bk h) Q)) :
    br_r (d + 1) 41 45 [some (.ref 55), z1, some (.int x2), some (.int x3), z4] [(.int s0)] (br_hp n I L) Q := br_run_blk br_stops_41 400 ⟨rfl, H⟩
theorem rb_Tokens_start_52 {d n : Nat} {Q : br_Q} {I : Nat → Nat → Int32} {L : Nat → Nat → Int64} {z1 : Option Value} {x2 : Int32} {x3 : Int32} {x4 : Int32} {s0 : Int32}
    (H : ((s0 = (nI 32)) → (br_r (d + 1) 41 74 [some (.ref 55), z1, some (.int x2), some (.int x3), some (.int x4)] [] (br_hp n I L) Q)) ∧ ((¬ (s0 = (nI 32))) → (br_r d 44 0 [some (.ref 55), some (.int x2)] [] (br_hp n I L) (fun v h => br_r (d + 1) 41 62 [some (.ref 55), z1, some (.int x2), some (.int x3), some (.int x4)] (v.toList ++ []) (br_bk h) Q)))) :
    br_r (d + 1) 41 52 [some (.ref 55), z1, some (.int x2), some (.int x3), some (.int x4)] [(.int s0)] (br_hp n I L) Q := br_run_blk br_stops_41 400 ⟨fun z3 => (H.1 z3), fun z3 => ⟨rfl, (H.2 z3)⟩⟩
theorem rb_Tokens_start_62 {d n : Nat} {Q : br_Q} {I : Nat → Nat → Int32} {L : Nat → Nat → Int64} {z1 : Option Value} {x2 : Int32} {x3 : Int32} {x4 : Int32} {s0 : Int32}
    (H : ((s0 = (nI 10)) → (br_r (d + 1) 41 74 [some (.ref 55), z1, some (.int x2), some (.int x3), some (.int x4)] [] (br_hp n I L) Q)) ∧ ((¬ (s0 = (nI 10))) → (br_r d 47 0 [some (.ref 55), some (.int x2), some (.int x4)] [] (br_hp n I L) (fun v h => br_r (d + 1) 41 74 [some (.ref 55), z1, some (.int x2), some (.int x3), some (.int x4)] (v.toList ++ []) (br_bk h) Q)))) :
    br_r (d + 1) 41 62 [some (.ref 55), z1, some (.int x2), some (.int x3), some (.int x4)] [(.int s0)] (br_hp n I L) Q := br_run_blk br_stops_41 400 ⟨fun z4 => (H.1 z4), fun z4 => ⟨rfl, (H.2 z4)⟩⟩
theorem rb_Tokens_start_74 {d n : Nat} {Q : br_Q} {I : Nat → Nat → Int32} {L : Nat → Nat → Int64} {z1 : Option Value} {z2 : Option Value} {x3 : Int32} {x4 : Int32}
    (H : br_r (d + 1) 41 25 [some (.ref 55), (br_kl z1), some (.int x4), some (.int (x3 + (nI 1))), some (.int x4)] [] (br_hp n I L) Q) :
    br_r (d + 1) 41 74 [some (.ref 55), z1, z2, some (.int x3), some (.int x4)] [] (br_hp n I L) Q := br_run_blk br_stops_41 400 H
theorem rb_Tokens_start_92 {d n : Nat} {Q : br_Q} {I : Nat → Nat → Int32} {L : Nat → Nat → Int64} {z0 : Option Value} {z1 : Option Value} {z2 : Option Value} {z3 : Option Value} {z4 : Option Value}
    (H : Q none (br_hp n I L)) :
    br_r (d + 1) 41 92 [z0, z1, z2, z3, z4] [] (br_hp n I L) Q := br_run_blk br_stops_41 400 ⟨rfl, H⟩
def br_stops_42 : List Nat := [0]
theorem rb_Math_min_II_0 {d n : Nat} {Q : br_Q} {I : Nat → Nat → Int32} {L : Nat → Nat → Int64} {x0 : Int32} {x1 : Int32}
    (H : ((x1 < x0) → (Q (some (.int x1)) (br_hp n I L))) ∧ ((¬ (x1 < x0)) → (Q (some (.int x0)) (br_hp n I L)))) :
    br_r d 42 0 [some (.int x0), some (.int x1)] [] (br_hp n I L) Q := br_run_blk br_stops_42 400 ⟨fun z1 => ⟨rfl, (H.1 z1)⟩, fun z1 => ⟨rfl, (H.2 z1)⟩⟩
def br_stops_43 : List Nat := [0, 9, 12, 15, 28, 31, 45, 48, 51, 64, 67]
theorem rb_Tokens_endOfRun_0 {d n : Nat} {Q : br_Q} {I : Nat → Nat → Int32} {L : Nat → Nat → Int64} {x1 : Int32} {z2 : Option Value}
    (H : br_r d 44 0 [some (.ref 55), some (.int x1)] [] (br_hp n I L) (fun v h => br_r (d + 1) 43 9 [some (.ref 55), some (.int x1), some (.int (x1 + (nI 1)))] (v.toList ++ []) (br_bk h) Q)) :
    br_r (d + 1) 43 0 [some (.ref 55), some (.int x1), z2] [] (br_hp n I L) Q := br_run_blk br_stops_43 400 ⟨rfl, H⟩
theorem rb_Tokens_endOfRun_9 {d n : Nat} {Q : br_Q} {I : Nat → Nat → Int32} {L : Nat → Nat → Int64} {x1 : Int32} {x2 : Int32} {s0 : Int32}
    (H : br_r d 45 0 [some (.int s0)] [] (br_hp n I L) (fun v h => br_r (d + 1) 43 12 [some (.ref 55), some (.int x1), some (.int x2)] (v.toList ++ []) (br_bk h) Q)) :
    br_r (d + 1) 43 9 [some (.ref 55), some (.int x1), some (.int x2)] [(.int s0)] (br_hp n I L) Q := br_run_blk br_stops_43 400 H
theorem rb_Tokens_endOfRun_12 {d n : Nat} {Q : br_Q} {I : Nat → Nat → Int32} {L : Nat → Nat → Int64} {x1 : Int32} {x2 : Int32} {s0 : Int32}
    (H : ((s0 = (nI 0)) → (br_r d 44 0 [some (.ref 55), some (.int x1)] [] (br_hp n I L) (fun v h => br_r (d + 1) 43 45 [some (.ref 55), some (.int x1), some (.int x2)] (v.toList ++ []) (br_bk h) Q))) ∧ ((¬ (s0 = (nI 0))) → (br_r (d + 1) 43 15 [some (.ref 55), some (.int x1), some (.int x2)] [] (br_hp n I L) Q))) :
    br_r (d + 1) 43 12 [some (.ref 55), some (.int x1), some (.int x2)] [(.int s0)] (br_hp n I L) Q := br_run_blk br_stops_43 400 ⟨fun z1 => ⟨rfl, (H.1 z1)⟩, fun z1 => (H.2 z1)⟩
theorem rb_Tokens_endOfRun_15 {d n : Nat} {Q : br_Q} {I : Nat → Nat → Int32} {L : Nat → Nat → Int64} {z1 : Option Value} {x2 : Int32}
    (H : (((I 55 6) ≤ x2) → (Q (some (.int x2)) (br_hp n I L))) ∧ ((¬ ((I 55 6) ≤ x2)) → (br_r d 44 0 [some (.ref 55), some (.int x2)] [] (br_hp n I L) (fun v h => br_r (d + 1) 43 28 [some (.ref 55), z1, some (.int x2)] (v.toList ++ []) (br_bk h) Q)))) :
    br_r (d + 1) 43 15 [some (.ref 55), z1, some (.int x2)] [] (br_hp n I L) Q := br_run_blk br_stops_43 400 ⟨rfl, ⟨fun z2 => ⟨rfl, (H.1 z2)⟩, fun z2 => ⟨rfl, (H.2 z2)⟩⟩⟩
theorem rb_Tokens_endOfRun_28 {d n : Nat} {Q : br_Q} {I : Nat → Nat → Int32} {L : Nat → Nat → Int64} {z1 : Option Value} {x2 : Int32} {s0 : Int32}
    (H : br_r d 45 0 [some (.int s0)] [] (br_hp n I L) (fun v h => br_r (d + 1) 43 31 [some (.ref 55), z1, some (.int x2)] (v.toList ++ []) (br_bk h) Q)) :
    br_r (d + 1) 43 28 [some (.ref 55), z1, some (.int x2)] [(.int s0)] (br_hp n I L) Q := br_run_blk br_stops_43 400 H
theorem rb_Tokens_endOfRun_31 {d n : Nat} {Q : br_Q} {I : Nat → Nat → Int32} {L : Nat → Nat → Int64} {z1 : Option Value} {x2 : Int32} {s0 : Int32}
    (H : ((s0 = (nI 0)) → (Q (some (.int x2)) (br_hp n I L))) ∧ ((¬ (s0 = (nI 0))) → (br_r (d + 1) 43 15 [some (.ref 55), (br_kl z1), some (.int (x2 + (nI 1)))] [] (br_hp n I L) Q))) :
    br_r (d + 1) 43 31 [some (.ref 55), z1, some (.int x2)] [(.int s0)] (br_hp n I L) Q := br_run_blk br_stops_43 400 ⟨fun z3 => ⟨rfl, (H.1 z3)⟩, fun z3 => (H.2 z3)⟩
theorem rb_Tokens_endOfRun_45 {d n : Nat} {Q : br_Q} {I : Nat → Nat → Int32} {L : Nat → Nat → Int64} {z1 : Option Value} {x2 : Int32} {s0 : Int32}
    (H : br_r d 46 0 [some (.int s0)] [] (br_hp n I L) (fun v h => br_r (d + 1) 43 48 [some (.ref 55), z1, some (.int x2)] (v.toList ++ []) (br_bk h) Q)) :
    br_r (d + 1) 43 45 [some (.ref 55), z1, some (.int x2)] [(.int s0)] (br_hp n I L) Q := br_run_blk br_stops_43 400 H
theorem rb_Tokens_endOfRun_48 {d n : Nat} {Q : br_Q} {I : Nat → Nat → Int32} {L : Nat → Nat → Int64} {z1 : Option Value} {x2 : Int32} {s0 : Int32}
    (H : ((s0 = (nI 0)) → (Q (some (.int x2)) (br_hp n I L))) ∧ ((¬ (s0 = (nI 0))) → (br_r (d + 1) 43 51 [some (.ref 55), z1, some (.int x2)] [] (br_hp n I L) Q))) :
    br_r (d + 1) 43 48 [some (.ref 55), z1, some (.int x2)] [(.int s0)] (br_hp n I L) Q := br_run_blk br_stops_43 400 ⟨fun z4 => ⟨rfl, (H.1 z4)⟩, fun z4 => (H.2 z4)⟩
theorem rb_Tokens_endOfRun_51 {d n : Nat} {Q : br_Q} {I : Nat → Nat → Int32} {L : Nat → Nat → Int64} {z1 : Option Value} {x2 : Int32}
    (H : (((I 55 6) ≤ x2) → (Q (some (.int x2)) (br_hp n I L))) ∧ ((¬ ((I 55 6) ≤ x2)) → (br_r d 44 0 [some (.ref 55), some (.int x2)] [] (br_hp n I L) (fun v h => br_r (d + 1) 43 64 [some (.ref 55), z1, some (.int x2)] (v.toList ++ []) (br_bk h) Q)))) :
    br_r (d + 1) 43 51 [some (.ref 55), z1, some (.int x2)] [] (br_hp n I L) Q := br_run_blk br_stops_43 400 ⟨rfl, ⟨fun z5 => ⟨rfl, (H.1 z5)⟩, fun z5 => ⟨rfl, (H.2 z5)⟩⟩⟩
theorem rb_Tokens_endOfRun_64 {d n : Nat} {Q : br_Q} {I : Nat → Nat → Int32} {L : Nat → Nat → Int64} {z1 : Option Value} {x2 : Int32} {s0 : Int32}
    (H : br_r d 46 0 [some (.int s0)] [] (br_hp n I L) (fun v h => br_r (d + 1) 43 67 [some (.ref 55), z1, some (.int x2)] (v.toList ++ []) (br_bk h) Q)) :
    br_r (d + 1) 43 64 [some (.ref 55), z1, some (.int x2)] [(.int s0)] (br_hp n I L) Q := br_run_blk br_stops_43 400 H
theorem rb_Tokens_endOfRun_67 {d n : Nat} {Q : br_Q} {I : Nat → Nat → Int32} {L : Nat → Nat → Int64} {z1 : Option Value} {x2 : Int32} {s0 : Int32}
    (H : ((s0 = (nI 0)) → (Q (some (.int x2)) (br_hp n I L))) ∧ ((¬ (s0 = (nI 0))) → (br_r (d + 1) 43 51 [some (.ref 55), (br_kl z1), some (.int (x2 + (nI 1)))] [] (br_hp n I L) Q))) :
    br_r (d + 1) 43 67 [some (.ref 55), z1, some (.int x2)] [(.int s0)] (br_hp n I L) Q := br_run_blk br_stops_43 400 ⟨fun z6 => ⟨rfl, (H.1 z6)⟩, fun z6 => (H.2 z6)⟩
def br_stops_44 : List Nat := [0]
theorem rb_Tokens_sign_0 {d n : Nat} {Q : br_Q} {I : Nat → Nat → Int32} {L : Nat → Nat → Int64} {x1 : Int32}
    (H : ((x1 < (nI 0)) → (Q (some (.int (nI 0))) (br_hp n I L))) ∧ ((¬ (x1 < (nI 0))) → ((((nI 400) ≤ x1) → (Q (some (.int (nI 0))) (br_hp n I L))) ∧ ((¬ ((nI 400) ≤ x1)) → ((vp_in x1 400) ∧ (Q (some (.int ((I 56 x1.toNatClampNeg) &&& (nI 255)))) (br_hp n I L))))))) :
    br_r d 44 0 [some (.ref 55), some (.int x1)] [] (br_hp n I L) Q := br_run_blk br_stops_44 400 ⟨fun z2 => ⟨rfl, (H.1 z2)⟩, fun z2 => ⟨rfl, ⟨rfl, ⟨fun z1 => ⟨rfl, ((H.2 z2).1 z1)⟩, fun z1 => ⟨rfl, ⟨Or.inr rfl, ((H.2 z2).2 z1).1, ⟨rfl, ((H.2 z2).2 z1).2⟩⟩⟩⟩⟩⟩⟩
def br_stops_45 : List Nat := [0]
theorem rb_Tokens_isDigit_0 {d n : Nat} {Q : br_Q} {I : Nat → Nat → Int32} {L : Nat → Nat → Int64} {x0 : Int32}
    (H : ((x0 < (nI 48)) → (Q (some (.int (nI 0))) (br_hp n I L))) ∧ ((¬ (x0 < (nI 48))) → ((((nI 57) < x0) → (Q (some (.int (nI 0))) (br_hp n I L))) ∧ ((¬ ((nI 57) < x0)) → (Q (some (.int (nI 1))) (br_hp n I L)))))) :
    br_r d 45 0 [some (.int x0)] [] (br_hp n I L) Q := br_run_blk br_stops_45 400 ⟨fun z2 => ⟨rfl, Or.inl rfl, (H.1 z2)⟩, fun z2 => ⟨fun z1 => ⟨rfl, Or.inl rfl, ((H.2 z2).1 z1)⟩, fun z1 => ⟨rfl, Or.inr rfl, ((H.2 z2).2 z1)⟩⟩⟩
def br_stops_46 : List Nat := [0]
theorem rb_Tokens_isLetter_0 {d n : Nat} {Q : br_Q} {I : Nat → Nat → Int32} {L : Nat → Nat → Int64} {x0 : Int32}
    (H : ((x0 < (nI 97)) → (Q (some (.int (nI 0))) (br_hp n I L))) ∧ ((¬ (x0 < (nI 97))) → ((((nI 122) < x0) → (Q (some (.int (nI 0))) (br_hp n I L))) ∧ ((¬ ((nI 122) < x0)) → (Q (some (.int (nI 1))) (br_hp n I L)))))) :
    br_r d 46 0 [some (.int x0)] [] (br_hp n I L) Q := br_run_blk br_stops_46 400 ⟨fun z2 => ⟨rfl, Or.inl rfl, (H.1 z2)⟩, fun z2 => ⟨fun z1 => ⟨rfl, Or.inl rfl, ((H.2 z2).1 z1)⟩, fun z1 => ⟨rfl, Or.inr rfl, ((H.2 z2).2 z1)⟩⟩⟩
def br_stops_47 : List Nat := [0, 36, 39, 56, 65, 68, 84, 87, 137]
theorem rb_Tokens_keepToken_0 {d n : Nat} {Q : br_Q} {I : Nat → Nat → Int32} {L : Nat → Nat → Int64} {x1 : Int32} {x2 : Int32}
    (H : (((I 55 5) < (nI 400)) → ((vp_in (I 55 5) 400) ∧ ((vp_in ((br_u I 58 (I 55 5).toNatClampNeg x1) 55 5) 400) ∧ (br_r d 44 0 [some (.ref 55), some (.int x1)] [] (br_hp n (br_u (br_u I 58 (I 55 5).toNatClampNeg x1) 59 ((br_u I 58 (I 55 5).toNatClampNeg x1) 55 5).toNatClampNeg (nI 0)) L) (fun v h => br_r (d + 1) 47 36 [some (.ref 55), some (.int x1), some (.int x2)] (v.toList ++ []) (br_bk h) Q))))) ∧ ((¬ ((I 55 5) < (nI 400))) → (Q none (br_hp n I L)))) :
    br_r (d + 1) 47 0 [some (.ref 55), some (.int x1), some (.int x2)] [] (br_hp n I L) Q := br_run_blk br_stops_47 400 ⟨rfl, ⟨fun z1 => ⟨rfl, ⟨rfl, ⟨rfl, (Nat.le_of_ble_eq_true rfl), (H.1 z1).1, ⟨rfl, ⟨rfl, ⟨rfl, (Nat.le_of_ble_eq_true rfl), (H.1 z1).2.1, ⟨rfl, (H.1 z1).2.2⟩⟩⟩⟩⟩⟩⟩, fun z1 => ⟨rfl, (H.2 z1)⟩⟩⟩
theorem rb_Tokens_keepToken_36 {d n : Nat} {Q : br_Q} {I : Nat → Nat → Int32} {L : Nat → Nat → Int64} {x1 : Int32} {x2 : Int32} {s0 : Int32}
    (H : br_r d 46 0 [some (.int s0)] [] (br_hp n I L) (fun v h => br_r (d + 1) 47 39 [some (.ref 55), some (.int x1), some (.int x2)] (v.toList ++ []) (br_bk h) Q)) :
    br_r (d + 1) 47 36 [some (.ref 55), some (.int x1), some (.int x2)] [(.int s0)] (br_hp n I L) Q := br_run_blk br_stops_47 400 H
theorem rb_Tokens_keepToken_39 {d n : Nat} {Q : br_Q} {I : Nat → Nat → Int32} {L : Nat → Nat → Int64} {x1 : Int32} {x2 : Int32} {s0 : Int32}
    (H : ((s0 = (nI 0)) → (br_r d 44 0 [some (.ref 55), some (.int x1)] [] (br_hp n I L) (fun v h => br_r (d + 1) 47 65 [some (.ref 55), some (.int x1), some (.int x2)] (v.toList ++ []) (br_bk h) Q))) ∧ ((¬ (s0 = (nI 0))) → (br_r d 48 0 [some (.ref 55), some (.int x1), some (.int x2), none, none, none, none, none] [] (br_hp n I L) (fun v h => br_r (d + 1) 47 56 [some (.ref 55), some (.int x1), some (.int x2)] (v.toList ++ [(.int (I 55 5)), (.ref 57)]) (br_bk h) Q)))) :
    br_r (d + 1) 47 39 [some (.ref 55), some (.int x1), some (.int x2)] [(.int s0)] (br_hp n I L) Q := br_run_blk br_stops_47 400 ⟨fun z2 => ⟨rfl, (H.1 z2)⟩, fun z2 => ⟨rfl, ⟨rfl, ⟨rfl, (H.2 z2)⟩⟩⟩⟩
theorem rb_Tokens_keepToken_56 {d n : Nat} {Q : br_Q} {I : Nat → Nat → Int32} {L : Nat → Nat → Int64} {z1 : Option Value} {z2 : Option Value} {s1 : Int32} {s2 : Int32}
    (H : (vp_in s1 400) ∧ (Q none (br_hp n (br_u (br_u I 57 s1.toNatClampNeg s2) 55 5 (((br_u I 57 s1.toNatClampNeg s2) 55 5) + (nI 1))) L))) :
    br_r (d + 1) 47 56 [some (.ref 55), z1, z2] [(.int s2), (.int s1), (.ref 57)] (br_hp n I L) Q := br_run_blk br_stops_47 400 ⟨rfl, (Nat.le_of_ble_eq_true rfl), H.1, ⟨rfl, ⟨rfl, ⟨rfl, H.2⟩⟩⟩⟩
theorem rb_Tokens_keepToken_65 {d n : Nat} {Q : br_Q} {I : Nat → Nat → Int32} {L : Nat → Nat → Int64} {x1 : Int32} {x2 : Int32} {s0 : Int32}
    (H : br_r d 45 0 [some (.int s0)] [] (br_hp n I L) (fun v h => br_r (d + 1) 47 68 [some (.ref 55), some (.int x1), some (.int x2)] (v.toList ++ []) (br_bk h) Q)) :
    br_r (d + 1) 47 65 [some (.ref 55), some (.int x1), some (.int x2)] [(.int s0)] (br_hp n I L) Q := br_run_blk br_stops_47 400 H
theorem rb_Tokens_keepToken_68 {d n : Nat} {Q : br_Q} {I : Nat → Nat → Int32} {L : Nat → Nat → Int64} {x1 : Int32} {x2 : Int32} {s0 : Int32}
    (H : ((¬ s0 = (nI 0)) → ((((x2 - x1) ≤ (nI 3)) → ((vp_in (I 55 5) 400) ∧ (br_r d 61 0 [some (.ref 55), some (.int x1), some (.int x2), none, none] [] (br_hp n (br_u I 57 (I 55 5).toNatClampNeg (nI 41)) L) (fun v h => br_r (d + 1) 47 137 [some (.ref 55), some (.int x1), some (.int x2)] (v.toList ++ [(.int ((br_u I 57 (I 55 5).toNatClampNeg (nI 41)) 55 5)), (.ref 59)]) (br_bk h) Q)))) ∧ ((¬ ((x2 - x1) ≤ (nI 3))) → ((vp_in (I 55 5) 400) ∧ (Q none (br_hp n (br_u (br_u I 57 (I 55 5).toNatClampNeg (nI 43)) 55 5 (((br_u I 57 (I 55 5).toNatClampNeg (nI 43)) 55 5) + (nI 1))) L)))))) ∧ ((¬ (¬ s0 = (nI 0))) → (br_r d 44 0 [some (.ref 55), some (.int x1)] [] (br_hp n I L) (fun v h => br_r (d + 1) 47 84 [some (.ref 55), some (.int x1), some (.int x2)] (v.toList ++ [(.int (I 55 5)), (.ref 57)]) (br_bk h) Q)))) :
    br_r (d + 1) 47 68 [some (.ref 55), some (.int x1), some (.int x2)] [(.int s0)] (br_hp n I L) Q := br_run_blk br_stops_47 400 ⟨fun z4 => ⟨fun z3 => ⟨rfl, ⟨rfl, ⟨rfl, (Nat.le_of_ble_eq_true rfl), ((H.1 z4).1 z3).1, ⟨rfl, ⟨rfl, ⟨rfl, ((H.1 z4).1 z3).2⟩⟩⟩⟩⟩⟩, fun z3 => ⟨rfl, ⟨rfl, ⟨rfl, (Nat.le_of_ble_eq_true rfl), ((H.1 z4).2 z3).1, ⟨rfl, ⟨rfl, ⟨rfl, ((H.1 z4).2 z3).2⟩⟩⟩⟩⟩⟩⟩, fun z4 => ⟨rfl, ⟨rfl, ⟨rfl, (H.2 z4)⟩⟩⟩⟩
theorem rb_Tokens_keepToken_84 {d n : Nat} {Q : br_Q} {I : Nat → Nat → Int32} {L : Nat → Nat → Int64} {z1 : Option Value} {z2 : Option Value} {s1 : Int32} {s2 : Int32}
    (H : br_r d 60 0 [some (.int s2)] [] (br_hp n I L) (fun v h => br_r (d + 1) 47 87 [some (.ref 55), z1, z2] (v.toList ++ [(.int s1), (.ref 57)]) (br_bk h) Q)) :
    br_r (d + 1) 47 84 [some (.ref 55), z1, z2] [(.int s2), (.int s1), (.ref 57)] (br_hp n I L) Q := br_run_blk br_stops_47 400 H
theorem rb_Tokens_keepToken_87 {d n : Nat} {Q : br_Q} {I : Nat → Nat → Int32} {L : Nat → Nat → Int64} {z1 : Option Value} {z2 : Option Value} {s1 : Int32} {s2 : Int32}
    (H : (vp_in s1 400) ∧ (Q none (br_hp n (br_u (br_u I 57 s1.toNatClampNeg s2) 55 5 (((br_u I 57 s1.toNatClampNeg s2) 55 5) + (nI 1))) L))) :
    br_r (d + 1) 47 87 [some (.ref 55), z1, z2] [(.int s2), (.int s1), (.ref 57)] (br_hp n I L) Q := br_run_blk br_stops_47 400 ⟨rfl, (Nat.le_of_ble_eq_true rfl), H.1, ⟨rfl, ⟨rfl, ⟨rfl, H.2⟩⟩⟩⟩
theorem rb_Tokens_keepToken_137 {d n : Nat} {Q : br_Q} {I : Nat → Nat → Int32} {L : Nat → Nat → Int64} {z1 : Option Value} {z2 : Option Value} {s1 : Int32} {s2 : Int32}
    (H : (vp_in s1 400) ∧ (Q none (br_hp n (br_u (br_u I 59 s1.toNatClampNeg s2) 55 5 (((br_u I 59 s1.toNatClampNeg s2) 55 5) + (nI 1))) L))) :
    br_r (d + 1) 47 137 [some (.ref 55), z1, z2] [(.int s2), (.int s1), (.ref 59)] (br_hp n I L) Q := br_run_blk br_stops_47 400 ⟨rfl, (Nat.le_of_ble_eq_true rfl), H.1, ⟨rfl, ⟨rfl, ⟨rfl, H.2⟩⟩⟩⟩
def br_stops_48 : List Nat := [0, 11, 18, 28, 79]
theorem rb_Tokens_wordAt_0 {d n : Nat} {Q : br_Q} {I : Nat → Nat → Int32} {L : Nat → Nat → Int64} {x1 : Int32} {x2 : Int32} {z3 : Option Value} {z4 : Option Value} {z5 : Option Value} {z6 : Option Value} {z7 : Option Value}
    (H : br_r (d + 1) 48 11 [some (.ref 55), some (.int x1), some (.int x2), some (.int (nI 0)), some (.int x1), some (.int (nI 1)), some (.int (nI 0)), z7] [] (br_hp n I L) Q) :
    br_r (d + 1) 48 0 [some (.ref 55), some (.int x1), some (.int x2), z3, z4, z5, z6, z7] [] (br_hp n I L) Q := br_run_blk br_stops_48 400 H
theorem rb_Tokens_wordAt_11 {d n : Nat} {Q : br_Q} {I : Nat → Nat → Int32} {L : Nat → Nat → Int64} {x1 : Int32} {x2 : Int32} {x3 : Int32} {x4 : Int32} {x5 : Int32} {x6 : Int32} {z7 : Option Value}
    (H : br_r d 49 0 [some (.ref 3)] [] (br_hp n I L) (fun v h => br_r (d + 1) 48 18 [some (.ref 55), some (.int x1), some (.int x2), some (.int x3), some (.int x4), some (.int x5), some (.int x6), z7] (v.toList ++ [(.int x6)]) (br_bk h) Q)) :
    br_r (d + 1) 48 11 [some (.ref 55), some (.int x1), some (.int x2), some (.int x3), some (.int x4), some (.int x5), some (.int x6), z7] [] (br_hp n I L) Q := br_run_blk br_stops_48 400 ⟨rfl, H⟩
theorem rb_Tokens_wordAt_18 {d n : Nat} {Q : br_Q} {I : Nat → Nat → Int32} {L : Nat → Nat → Int64} {x1 : Int32} {x2 : Int32} {x3 : Int32} {x4 : Int32} {x5 : Int32} {x6 : Int32} {z7 : Option Value} {s0 : Int32} {s1 : Int32}
    (H : ((s1 ≤ s0) → (Q (some (.int (nI 40))) (br_hp n I L))) ∧ ((¬ (s1 ≤ s0)) → (br_r d 51 0 [some (.ref 3), some (.int x6)] [] (br_hp n I L) (fun v h => br_r (d + 1) 48 28 [some (.ref 55), some (.int x1), some (.int x2), some (.int x3), some (.int x4), some (.int x5), some (.int x6), z7] (v.toList ++ []) (br_bk h) Q)))) :
    br_r (d + 1) 48 18 [some (.ref 55), some (.int x1), some (.int x2), some (.int x3), some (.int x4), some (.int x5), some (.int x6), z7] [(.int s1), (.int s0)] (br_hp n I L) Q := br_run_blk br_stops_48 400 ⟨fun z1 => ⟨rfl, (H.1 z1)⟩, fun z1 => ⟨rfl, (H.2 z1)⟩⟩
theorem rb_Tokens_wordAt_28 {d n : Nat} {Q : br_Q} {I : Nat → Nat → Int32} {L : Nat → Nat → Int64} {x1 : Int32} {x2 : Int32} {x3 : Int32} {x4 : Int32} {x5 : Int32} {x6 : Int32} {z7 : Option Value} {s0 : Int32}
    (H : ((¬ s0 = (nI 32)) → (((x5 = (nI 0)) → (br_r (d + 1) 48 11 [some (.ref 55), some (.int x1), some (.int x2), some (.int x3), some (.int x4), some (.int (nI 0)), some (.int (x6 + (nI 1))), some (.int s0)] [] (br_hp n I L) Q)) ∧ ((¬ (x5 = (nI 0))) → (((x2 ≤ x4) → (br_r (d + 1) 48 11 [some (.ref 55), some (.int x1), some (.int x2), some (.int x3), some (.int x4), some (.int (nI 0)), some (.int (x6 + (nI 1))), some (.int s0)] [] (br_hp n I L) Q)) ∧ ((¬ (x2 ≤ x4)) → (br_r d 44 0 [some (.ref 55), some (.int x4)] [] (br_hp n I L) (fun v h => br_r (d + 1) 48 79 [some (.ref 55), some (.int x1), some (.int x2), some (.int x3), some (.int x4), some (.int x5), some (.int x6), some (.int s0)] (v.toList ++ []) (br_bk h) Q))))))) ∧ ((¬ (¬ s0 = (nI 32))) → (((x5 = (nI 0)) → (br_r (d + 1) 48 11 [some (.ref 55), some (.int x1), some (.int x2), some (.int (x3 + (nI 1))), some (.int x1), some (.int (nI 1)), some (.int (x6 + (nI 1))), some (.int s0)] [] (br_hp n I L) Q)) ∧ ((¬ (x5 = (nI 0))) → (((¬ x4 = x2) → (br_r (d + 1) 48 11 [some (.ref 55), some (.int x1), some (.int x2), some (.int (x3 + (nI 1))), some (.int x1), some (.int (nI 1)), some (.int (x6 + (nI 1))), some (.int s0)] [] (br_hp n I L) Q)) ∧ ((¬ (¬ x4 = x2)) → (Q (some (.int x3)) (br_hp n I L)))))))) :
    br_r (d + 1) 48 28 [some (.ref 55), some (.int x1), some (.int x2), some (.int x3), some (.int x4), some (.int x5), some (.int x6), z7] [(.int s0)] (br_hp n I L) Q := br_run_blk br_stops_48 400 ⟨fun z6 => ⟨fun z3 => ((H.1 z6).1 z3), fun z3 => ⟨fun z2 => (((H.1 z6).2 z3).1 z2), fun z2 => ⟨rfl, (((H.1 z6).2 z3).2 z2)⟩⟩⟩, fun z6 => ⟨fun z5 => ((H.2 z6).1 z5), fun z5 => ⟨fun z4 => (((H.2 z6).2 z5).1 z4), fun z4 => ⟨rfl, (((H.2 z6).2 z5).2 z4)⟩⟩⟩⟩
theorem rb_Tokens_wordAt_79 {d n : Nat} {Q : br_Q} {I : Nat → Nat → Int32} {L : Nat → Nat → Int64} {x1 : Int32} {x2 : Int32} {x3 : Int32} {x4 : Int32} {x5 : Int32} {x6 : Int32} {x7 : Int32} {s0 : Int32}
    (H : ((¬ s0 = x7) → (br_r (d + 1) 48 11 [some (.ref 55), some (.int x1), some (.int x2), some (.int x3), some (.int x4), some (.int (nI 0)), some (.int (x6 + (nI 1))), some (.int x7)] [] (br_hp n I L) Q)) ∧ ((¬ (¬ s0 = x7)) → (br_r (d + 1) 48 11 [some (.ref 55), some (.int x1), some (.int x2), some (.int x3), some (.int (x4 + (nI 1))), some (.int x5), some (.int (x6 + (nI 1))), some (.int x7)] [] (br_hp n I L) Q))) :
    br_r (d + 1) 48 79 [some (.ref 55), some (.int x1), some (.int x2), some (.int x3), some (.int x4), some (.int x5), some (.int x6), some (.int x7)] [(.int s0)] (br_hp n I L) Q := br_run_blk br_stops_48 400 ⟨fun z7 => (H.1 z7), fun z7 => (H.2 z7)⟩
def br_stops_49 : List Nat := [0, 9]
theorem rb_String_length_0 {d n : Nat} {Q : br_Q} {I : Nat → Nat → Int32} {L : Nat → Nat → Int64} {r0 : Nat}
    (H : (br_S0 n r0 = (0, 13)) ∧ ((br_ar (br_S0 n (br_R0 r0 0)).1 = true) ∧ ((br_S0 n r0 = (0, 13)) ∧ (br_r d 50 0 [some (.ref r0)] [] (br_hp n I L) (fun v h => br_r (d + 1) 49 9 [some (.ref r0)] (v.toList ++ [(.int (Int32.ofNat (br_S0 n (br_R0 r0 0)).2))]) (br_bk h) Q))))) :
    br_r (d + 1) 49 0 [some (.ref r0)] [] (br_hp n I L) Q := br_run_blk br_stops_49 400 ⟨H.1, ⟨H.2.1, ⟨H.2.2.1, H.2.2.2⟩⟩⟩
theorem rb_String_length_9 {d n : Nat} {Q : br_Q} {I : Nat → Nat → Int32} {L : Nat → Nat → Int64} {z0 : Option Value} {s0 : Int32} {s1 : Int32}
    (H : Q (some (.int (s0 >>> (s1 &&& 31)))) (br_hp n I L)) :
    br_r (d + 1) 49 9 [z0] [(.int s1), (.int s0)] (br_hp n I L) Q := br_run_blk br_stops_49 400 ⟨rfl, H⟩
def br_stops_50 : List Nat := [0]
theorem rb_String_coder_0 {d n : Nat} {Q : br_Q} {I : Nat → Nat → Int32} {L : Nat → Nat → Int64} {r0 : Nat}
    (H : (br_S0 n r0 = (0, 13)) ∧ (vp_nar .byte (I r0 1) = (I r0 1) ∧ Q (some (.int (I r0 1))) (br_hp n I L))) :
    br_r d 50 0 [some (.ref r0)] [] (br_hp n I L) Q := br_run_blk br_stops_50 400 ⟨fun zz => (br_ccF zz rfl).elim, fun _ => ⟨H.1, ⟨rfl, H.2⟩⟩⟩
def br_stops_51 : List Nat := [0, 4, 15]
theorem rb_String_charAt_0 {d n : Nat} {Q : br_Q} {I : Nat → Nat → Int32} {L : Nat → Nat → Int64} {r0 : Nat} {x1 : Int32}
    (H : (br_S0 n r0 = (0, 13)) ∧ (br_r d 52 0 [some (.ref r0)] [] (br_hp n I L) (fun v h => br_r (d + 1) 51 4 [some (.ref r0), some (.int x1)] (v.toList ++ []) (br_bk h) Q))) :
    br_r (d + 1) 51 0 [some (.ref r0), some (.int x1)] [] (br_hp n I L) Q := br_run_blk br_stops_51 400 ⟨H.1, H.2⟩
theorem rb_String_charAt_4 {d n : Nat} {Q : br_Q} {I : Nat → Nat → Int32} {L : Nat → Nat → Int64} {r0 : Nat} {x1 : Int32} {s0 : Int32}
    (H : ((s0 = (nI 0)) → ((br_S0 n r0 = (0, 13)) ∧ (False))) ∧ ((¬ (s0 = (nI 0))) → ((br_S0 n r0 = (0, 13)) ∧ (br_r d 53 0 [some (.ref (br_R0 r0 0)), some (.int x1)] [] (br_hp n I L) (fun v h => br_r (d + 1) 51 15 [some (.ref r0), some (.int x1)] (v.toList ++ []) (br_bk h) Q))))) :
    br_r (d + 1) 51 4 [some (.ref r0), some (.int x1)] [(.int s0)] (br_hp n I L) Q := br_run_blk br_stops_51 400 ⟨fun z1 => ⟨(H.1 z1).1, (H.1 z1).2⟩, fun z1 => ⟨(H.2 z1).1, (H.2 z1).2⟩⟩
theorem rb_String_charAt_15 {d n : Nat} {Q : br_Q} {I : Nat → Nat → Int32} {L : Nat → Nat → Int64} {z0 : Option Value} {z1 : Option Value} {s0 : Int32}
    (H : vp_nar .char s0 = s0 ∧ Q (some (.int s0)) (br_hp n I L)) :
    br_r (d + 1) 51 15 [z0, z1] [(.int s0)] (br_hp n I L) Q := br_run_blk br_stops_51 400 ⟨rfl, H⟩
def br_stops_52 : List Nat := [0]
theorem rb_String_isLatin1_0 {d n : Nat} {Q : br_Q} {I : Nat → Nat → Int32} {L : Nat → Nat → Int64} {r0 : Nat}
    (H : (br_S0 n r0 = (0, 13)) ∧ (((¬ (I r0 1) = (nI 0)) → (Q (some (.int (nI 0))) (br_hp n I L))) ∧ ((¬ (¬ (I r0 1) = (nI 0))) → (Q (some (.int (nI 1))) (br_hp n I L))))) :
    br_r d 52 0 [some (.ref r0)] [] (br_hp n I L) Q := br_run_blk br_stops_52 400 ⟨fun zz => (br_ccF zz rfl).elim, fun _ => ⟨H.1, ⟨fun z1 => ⟨rfl, Or.inl rfl, (H.2.1 z1)⟩, fun z1 => ⟨rfl, Or.inr rfl, (H.2.2 z1)⟩⟩⟩⟩
def br_stops_53 : List Nat := [0, 6]
theorem rb_StringLatin1_charAt_0 {d n : Nat} {Q : br_Q} {I : Nat → Nat → Int32} {L : Nat → Nat → Int64} {r0 : Nat} {x1 : Int32}
    (H : (br_ar (br_S0 n r0).1 = true) ∧ (br_r d 54 0 [some (.int x1), some (.int (Int32.ofNat (br_S0 n r0).2))] [] (br_hp n I L) (fun v h => br_r (d + 1) 53 6 [some (.ref r0), some (.int x1)] (v.toList ++ []) (br_bk h) Q))) :
    br_r (d + 1) 53 0 [some (.ref r0), some (.int x1)] [] (br_hp n I L) Q := br_run_blk br_stops_53 400 ⟨H.1, H.2⟩
theorem rb_StringLatin1_charAt_6 {d n : Nat} {Q : br_Q} {I : Nat → Nat → Int32} {L : Nat → Nat → Int64} {r0 : Nat} {x1 : Int32}
    (H : ((br_S0 n r0).1 = 3 ∨ (br_S0 n r0).1 = 4) ∧ (vp_in x1 (br_S0 n r0).2) ∧ (vp_nar .char ((((I r0 x1.toNatClampNeg) &&& (nI 255)).toUInt32 % 65536).toInt32) = ((((I r0 x1.toNatClampNeg) &&& (nI 255)).toUInt32 % 65536).toInt32) ∧ Q (some (.int ((((I r0 x1.toNatClampNeg) &&& (nI 255)).toUInt32 % 65536).toInt32))) (br_hp n I L))) :
    br_r (d + 1) 53 6 [some (.ref r0), some (.int x1)] [] (br_hp n I L) Q := br_run_blk br_stops_53 400 ⟨H.1, H.2.1, ⟨rfl, H.2.2⟩⟩
def br_stops_54 : List Nat := [0, 8]
theorem rb_String_checkIndex_0 {d n : Nat} {Q : br_Q} {I : Nat → Nat → Int32} {L : Nat → Nat → Int64} {x0 : Int32} {x1 : Int32}
    (H : br_r d 55 0 [some (.int x0), some (.int x1), some (.ref 7)] [] (br_hp n I L) (fun v h => br_r (d + 1) 54 8 [some (.int x0), some (.int x1)] (v.toList ++ []) (br_bk h) Q)) :
    br_r (d + 1) 54 0 [some (.int x0), some (.int x1)] [] (br_hp n I L) Q := br_run_blk br_stops_54 400 H
theorem rb_String_checkIndex_8 {d n : Nat} {Q : br_Q} {I : Nat → Nat → Int32} {L : Nat → Nat → Int64} {z0 : Option Value} {z1 : Option Value} {s0 : Int32}
    (H : Q none (br_hp n I L)) :
    br_r (d + 1) 54 8 [z0, z1] [(.int s0)] (br_hp n I L) Q := br_run_blk br_stops_54 400 ⟨rfl, H⟩
def br_stops_55 : List Nat := [0]
theorem rb_Preconditions_checkIndex_0 {d n : Nat} {Q : br_Q} {I : Nat → Nat → Int32} {L : Nat → Nat → Int64} {x0 : Int32} {x1 : Int32} {r2 : Nat}
    (H : ((x0 < (nI 0)) → (False)) ∧ ((¬ (x0 < (nI 0))) → (((x0 < x1) → (Q (some (.int x0)) (br_hp n I L))) ∧ ((¬ (x0 < x1)) → (False))))) :
    br_r d 55 0 [some (.int x0), some (.int x1), some (.ref r2)] [] (br_hp n I L) Q := br_run_blk br_stops_55 400 ⟨fun z2 => (H.1 z2), fun z2 => ⟨fun z1 => ⟨rfl, ((H.2 z2).1 z1)⟩, fun z1 => ((H.2 z2).2 z1)⟩⟩
def br_stops_59 : List Nat := [0, 7, 10]
theorem rb_Ways_rowsOf_0 {d n : Nat} {Q : br_Q} {I : Nat → Nat → Int32} {L : Nat → Nat → Int64} {x0 : Int32}
    (H : br_r d 42 0 [some (.int x0), some (.int (nI 20))] [] (br_hp n I L) (fun v h => br_r (d + 1) 59 7 [some (.int x0)] (v.toList ++ [(.int (nI 0))]) (br_bk h) Q)) :
    br_r (d + 1) 59 0 [some (.int x0)] [] (br_hp n I L) Q := br_run_blk br_stops_59 400 H
theorem rb_Ways_rowsOf_7 {d n : Nat} {Q : br_Q} {I : Nat → Nat → Int32} {L : Nat → Nat → Int64} {z0 : Option Value} {s0 : Int32} {s1 : Int32}
    (H : br_r d 30 0 [some (.int s0), some (.int s1)] [] (br_hp n I L) (fun v h => br_r (d + 1) 59 10 [z0] (v.toList ++ []) (br_bk h) Q)) :
    br_r (d + 1) 59 7 [z0] [(.int s1), (.int s0)] (br_hp n I L) Q := br_run_blk br_stops_59 400 H
theorem rb_Ways_rowsOf_10 {d n : Nat} {Q : br_Q} {I : Nat → Nat → Int32} {L : Nat → Nat → Int64} {z0 : Option Value} {s0 : Int32}
    (H : Q (some (.int s0)) (br_hp n I L)) :
    br_r (d + 1) 59 10 [z0] [(.int s0)] (br_hp n I L) Q := br_run_blk br_stops_59 400 ⟨rfl, H⟩
def br_stops_60 : List Nat := [0]
theorem rb_Tokens_signKind_0 {d n : Nat} {Q : br_Q} {I : Nat → Nat → Int32} {L : Nat → Nat → Int64} {x0 : Int32}
    (H : ((x0 = (nI 40)) → (Q (some (.int (nI 45))) (br_hp n I L))) ∧ ((¬ (x0 = (nI 40))) → (((x0 = (nI 41)) → (Q (some (.int (nI 46))) (br_hp n I L))) ∧ ((¬ (x0 = (nI 41))) → (((x0 = (nI 45)) → (Q (some (.int (nI 47))) (br_hp n I L))) ∧ ((¬ (x0 = (nI 45))) → (((x0 = (nI 59)) → (Q (some (.int (nI 44))) (br_hp n I L))) ∧ ((¬ (x0 = (nI 59))) → (Q (some (.int (nI 43))) (br_hp n I L)))))))))) :
    br_r d 60 0 [some (.int x0)] [] (br_hp n I L) Q := br_run_blk br_stops_60 400 ⟨fun z4 => ⟨rfl, (H.1 z4)⟩, fun z4 => ⟨fun z3 => ⟨rfl, ((H.2 z4).1 z3)⟩, fun z3 => ⟨fun z2 => ⟨rfl, (((H.2 z4).2 z3).1 z2)⟩, fun z2 => ⟨fun z1 => ⟨rfl, ((((H.2 z4).2 z3).2 z2).1 z1)⟩, fun z1 => ⟨rfl, ((((H.2 z4).2 z3).2 z2).2 z1)⟩⟩⟩⟩⟩
def br_stops_61 : List Nat := [0, 5, 21]
theorem rb_Tokens_numberAt_0 {d n : Nat} {Q : br_Q} {I : Nat → Nat → Int32} {L : Nat → Nat → Int64} {x1 : Int32} {x2 : Int32} {z3 : Option Value} {z4 : Option Value}
    (H : br_r (d + 1) 61 5 [some (.ref 55), some (.int x1), some (.int x2), some (.int (nI 0)), some (.int x1)] [] (br_hp n I L) Q) :
    br_r (d + 1) 61 0 [some (.ref 55), some (.int x1), some (.int x2), z3, z4] [] (br_hp n I L) Q := br_run_blk br_stops_61 400 H
theorem rb_Tokens_numberAt_5 {d n : Nat} {Q : br_Q} {I : Nat → Nat → Int32} {L : Nat → Nat → Int64} {z1 : Option Value} {x2 : Int32} {x3 : Int32} {x4 : Int32}
    (H : ((x2 ≤ x4) → (Q (some (.int x3)) (br_hp n I L))) ∧ ((¬ (x2 ≤ x4)) → (br_r d 44 0 [some (.ref 55), some (.int x4)] [] (br_hp n I L) (fun v h => br_r (d + 1) 61 21 [some (.ref 55), z1, some (.int x2), some (.int x3), some (.int x4)] (v.toList ++ [(.int ((nI 10) * x3))]) (br_bk h) Q)))) :
    br_r (d + 1) 61 5 [some (.ref 55), z1, some (.int x2), some (.int x3), some (.int x4)] [] (br_hp n I L) Q := br_run_blk br_stops_61 400 ⟨fun z1 => ⟨rfl, (H.1 z1)⟩, fun z1 => ⟨rfl, (H.2 z1)⟩⟩
theorem rb_Tokens_numberAt_21 {d n : Nat} {Q : br_Q} {I : Nat → Nat → Int32} {L : Nat → Nat → Int64} {z1 : Option Value} {x2 : Int32} {z3 : Option Value} {x4 : Int32} {s0 : Int32} {s1 : Int32}
    (H : br_r (d + 1) 61 5 [some (.ref 55), z1, some (.int x2), some (.int ((s0 + s1) - (nI 48))), some (.int (x4 + (nI 1)))] [] (br_hp n I L) Q) :
    br_r (d + 1) 61 21 [some (.ref 55), z1, some (.int x2), z3, some (.int x4)] [(.int s1), (.int s0)] (br_hp n I L) Q := br_run_blk br_stops_61 400 H
def br_stops_62 : List Nat := [0, 42]
theorem rb_Tokens_advance_0 {d n : Nat} {Q : br_Q} {I : Nat → Nat → Int32} {L : Nat → Nat → Int64} {z1 : Option Value}
    (H : ((((br_u I 55 7 ((I 55 7) + (nI 1))) 55 7) < (nI 0)) → (br_r d 62 42 [some (.ref 55), z1] [] (br_hp n (br_u I 55 7 ((I 55 7) + (nI 1))) L) Q)) ∧ ((¬ (((br_u I 55 7 ((I 55 7) + (nI 1))) 55 7) < (nI 0))) → (((((br_u I 55 7 ((I 55 7) + (nI 1))) 55 5) ≤ ((br_u I 55 7 ((I 55 7) + (nI 1))) 55 7)) → (br_r d 62 42 [some (.ref 55), z1] [] (br_hp n (br_u I 55 7 ((I 55 7) + (nI 1))) L) Q)) ∧ ((¬ (((br_u I 55 7 ((I 55 7) + (nI 1))) 55 5) ≤ ((br_u I 55 7 ((I 55 7) + (nI 1))) 55 7))) → ((((nI 400) ≤ ((br_u I 55 7 ((I 55 7) + (nI 1))) 55 7)) → (br_r d 62 42 [some (.ref 55), z1] [] (br_hp n (br_u I 55 7 ((I 55 7) + (nI 1))) L) Q)) ∧ ((¬ ((nI 400) ≤ ((br_u I 55 7 ((I 55 7) + (nI 1))) 55 7))) → ((vp_in ((br_u I 55 7 ((I 55 7) + (nI 1))) 55 7) 400) ∧ ((vp_in ((br_u (br_u I 55 7 ((I 55 7) + (nI 1))) 55 8 ((br_u I 55 7 ((I 55 7) + (nI 1))) 57 ((br_u I 55 7 ((I 55 7) + (nI 1))) 55 7).toNatClampNeg)) 55 7) 400) ∧ ((vp_in ((br_u (br_u (br_u I 55 7 ((I 55 7) + (nI 1))) 55 8 ((br_u I 55 7 ((I 55 7) + (nI 1))) 57 ((br_u I 55 7 ((I 55 7) + (nI 1))) 55 7).toNatClampNeg)) 55 9 ((br_u (br_u I 55 7 ((I 55 7) + (nI 1))) 55 8 ((br_u I 55 7 ((I 55 7) + (nI 1))) 57 ((br_u I 55 7 ((I 55 7) + (nI 1))) 55 7).toNatClampNeg)) 58 ((br_u (br_u I 55 7 ((I 55 7) + (nI 1))) 55 8 ((br_u I 55 7 ((I 55 7) + (nI 1))) 57 ((br_u I 55 7 ((I 55 7) + (nI 1))) 55 7).toNatClampNeg)) 55 7).toNatClampNeg)) 55 7) 400) ∧ (Q none (br_hp n (br_u (br_u (br_u (br_u I 55 7 ((I 55 7) + (nI 1))) 55 8 ((br_u I 55 7 ((I 55 7) + (nI 1))) 57 ((br_u I 55 7 ((I 55 7) + (nI 1))) 55 7).toNatClampNeg)) 55 9 ((br_u (br_u I 55 7 ((I 55 7) + (nI 1))) 55 8 ((br_u I 55 7 ((I 55 7) + (nI 1))) 57 ((br_u I 55 7 ((I 55 7) + (nI 1))) 55 7).toNatClampNeg)) 58 ((br_u (br_u I 55 7 ((I 55 7) + (nI 1))) 55 8 ((br_u I 55 7 ((I 55 7) + (nI 1))) 57 ((br_u I 55 7 ((I 55 7) + (nI 1))) 55 7).toNatClampNeg)) 55 7).toNatClampNeg)) 55 10 ((br_u (br_u (br_u I 55 7 ((I 55 7) + (nI 1))) 55 8 ((br_u I 55 7 ((I 55 7) + (nI 1))) 57 ((br_u I 55 7 ((I 55 7) + (nI 1))) 55 7).toNatClampNeg)) 55 9 ((br_u (br_u I 55 7 ((I 55 7) + (nI 1))) 55 8 ((br_u I 55 7 ((I 55 7) + (nI 1))) 57 ((br_u I 55 7 ((I 55 7) + (nI 1))) 55 7).toNatClampNeg)) 58 ((br_u (br_u I 55 7 ((I 55 7) + (nI 1))) 55 8 ((br_u I 55 7 ((I 55 7) + (nI 1))) 57 ((br_u I 55 7 ((I 55 7) + (nI 1))) 55 7).toNatClampNeg)) 55 7).toNatClampNeg)) 59 ((br_u (br_u (br_u I 55 7 ((I 55 7) + (nI 1))) 55 8 ((br_u I 55 7 ((I 55 7) + (nI 1))) 57 ((br_u I 55 7 ((I 55 7) + (nI 1))) 55 7).toNatClampNeg)) 55 9 ((br_u (br_u I 55 7 ((I 55 7) + (nI 1))) 55 8 ((br_u I 55 7 ((I 55 7) + (nI 1))) 57 ((br_u I 55 7 ((I 55 7) + (nI 1))) 55 7).toNatClampNeg)) 58 ((br_u (br_u I 55 7 ((I 55 7) + (nI 1))) 55 8 ((br_u I 55 7 ((I 55 7) + (nI 1))) 57 ((br_u I 55 7 ((I 55 7) + (nI 1))) 55 7).toNatClampNeg)) 55 7).toNatClampNeg)) 55 7).toNatClampNeg)) L))))))))))) :
    br_r d 62 0 [some (.ref 55), z1] [] (br_hp n I L) Q := br_run_blk br_stops_62 400 ⟨rfl, ⟨rfl, ⟨rfl, ⟨fun z3 => (H.1 z3), fun z3 => ⟨rfl, ⟨rfl, ⟨fun z2 => ((H.2 z3).1 z2), fun z2 => ⟨rfl, ⟨fun z1 => (((H.2 z3).2 z2).1 z1), fun z1 => ⟨fun zz => (br_ccF zz rfl).elim, fun _ => ⟨rfl, ⟨rfl, ⟨rfl, (((H.2 z3).2 z2).2 z1).1, ⟨rfl, ⟨fun zz => (br_ccF zz rfl).elim, fun _ => ⟨rfl, ⟨rfl, ⟨rfl, (((H.2 z3).2 z2).2 z1).2.1, ⟨rfl, ⟨fun zz => (br_ccF zz rfl).elim, fun _ => ⟨rfl, ⟨rfl, ⟨rfl, (((H.2 z3).2 z2).2 z1).2.2.1, ⟨rfl, ⟨rfl, (((H.2 z3).2 z2).2 z1).2.2.2⟩⟩⟩⟩⟩⟩⟩⟩⟩⟩⟩⟩⟩⟩⟩⟩⟩⟩⟩⟩⟩⟩⟩⟩⟩
theorem rb_Tokens_advance_42 {d n : Nat} {Q : br_Q} {I : Nat → Nat → Int32} {L : Nat → Nat → Int64} {z1 : Option Value}
    (H : Q none (br_hp n (br_u (br_u (br_u I 55 8 (nI 42)) 55 9 ((br_u I 55 8 (nI 42)) 55 6)) 55 10 (nI 0)) L)) :
    br_r d 62 42 [some (.ref 55), z1] [] (br_hp n I L) Q := br_run_blk br_stops_62 400 ⟨fun _ => ⟨rfl, ⟨fun _ => ⟨rfl, ⟨rfl, ⟨fun _ => ⟨rfl, ⟨rfl, H⟩⟩, fun zz => (br_ccT zz rfl).elim⟩⟩⟩, fun zz => (br_ccT zz rfl).elim⟩⟩, fun zz => (br_ccT zz rfl).elim⟩
def br_stops_63 : List Nat := [0]
theorem rb_Reader_fails_0 {d n : Nat} {Q : br_Q} {I : Nat → Nat → Int32} {L : Nat → Nat → Int64} {x1 : Int32}
    (H : ((¬ (I 55 8) = (nI 43)) → (Q (some (.int (nI 0))) (br_hp n (br_u (br_u I 54 3 x1) 54 4 ((br_u I 54 3 x1) 55 9)) L))) ∧ ((¬ (¬ (I 55 8) = (nI 43))) → (Q (some (.int (nI 0))) (br_hp n (br_u (br_u I 54 3 (nI 1)) 54 4 ((br_u I 54 3 (nI 1)) 55 9)) L)))) :
    br_r d 63 0 [some (.ref 54), some (.int x1)] [] (br_hp n I L) Q := br_run_blk br_stops_63 400 ⟨rfl, ⟨rfl, ⟨fun z1 => ⟨rfl, ⟨rfl, ⟨rfl, ⟨rfl, ⟨rfl, Or.inl rfl, (H.1 z1)⟩⟩⟩⟩⟩, fun z1 => ⟨rfl, ⟨rfl, ⟨rfl, ⟨rfl, ⟨rfl, Or.inl rfl, (H.2 z1)⟩⟩⟩⟩⟩⟩⟩⟩
def br_stops_64 : List Nat := [0, 15, 25, 39, 52, 55, 67]
theorem rb_Reader_takesLine_0 {d n : Nat} {Q : br_Q} {I : Nat → Nat → Int32} {L : Nat → Nat → Int64} {z1 : Option Value}
    (H : br_r d 62 0 [some (.ref 55), none] [] (br_hp n I L) (fun v h => br_r (d + 1) 64 15 [some (.ref 54), some (.int (I 55 8))] (v.toList ++ []) (br_bk h) Q)) :
    br_r (d + 1) 64 0 [some (.ref 54), z1] [] (br_hp n I L) Q := br_run_blk br_stops_64 400 ⟨rfl, ⟨rfl, ⟨rfl, ⟨rfl, H⟩⟩⟩⟩
theorem rb_Reader_takesLine_15 {d n : Nat} {Q : br_Q} {I : Nat → Nat → Int32} {L : Nat → Nat → Int64} {x1 : Int32}
    (H : (((nI 5) ≤ x1) → ((((nI 8) ≤ x1) → (br_r d 26 0 [some (.ref 2), some (.int (x1 - (nI 11)))] [] (br_hp n I L) (fun v h => br_r (d + 1) 64 52 [some (.ref 54), some (.int x1)] (v.toList ++ [(.int (nI 0)), (.ref 54)]) (br_bk h) Q))) ∧ ((¬ ((nI 8) ≤ x1)) → (br_r d 69 0 [some (.ref 54), some (.int (x1 - (nI 5)))] [] (br_hp n I L) (fun v h => br_r (d + 1) 64 39 [some (.ref 54), some (.int x1)] (v.toList ++ []) (br_bk h) Q))))) ∧ ((¬ ((nI 5) ≤ x1)) → (br_r d 65 0 [some (.ref 54), some (.int x1), none] [] (br_hp n I L) (fun v h => br_r (d + 1) 64 25 [some (.ref 54), some (.int x1)] (v.toList ++ []) (br_bk h) Q)))) :
    br_r (d + 1) 64 15 [some (.ref 54), some (.int x1)] [] (br_hp n I L) Q := br_run_blk br_stops_64 400 ⟨fun z2 => ⟨fun z1 => ((H.1 z2).1 z1), fun z1 => ⟨rfl, ((H.1 z2).2 z1)⟩⟩, fun z2 => ⟨rfl, (H.2 z2)⟩⟩
theorem rb_Reader_takesLine_25 {d n : Nat} {Q : br_Q} {I : Nat → Nat → Int32} {L : Nat → Nat → Int64} {z0 : Option Value} {z1 : Option Value} {s0 : Int32}
    (H : (s0 = 0 ∨ s0 = 1) ∧ Q (some (.int s0)) (br_hp n I L)) :
    br_r (d + 1) 64 25 [z0, z1] [(.int s0)] (br_hp n I L) Q := br_run_blk br_stops_64 400 ⟨rfl, H⟩
theorem rb_Reader_takesLine_39 {d n : Nat} {Q : br_Q} {I : Nat → Nat → Int32} {L : Nat → Nat → Int64} {z0 : Option Value} {z1 : Option Value} {s0 : Int32}
    (H : (s0 = 0 ∨ s0 = 1) ∧ Q (some (.int s0)) (br_hp n I L)) :
    br_r (d + 1) 64 39 [z0, z1] [(.int s0)] (br_hp n I L) Q := br_run_blk br_stops_64 400 ⟨rfl, H⟩
theorem rb_Reader_takesLine_52 {d n : Nat} {Q : br_Q} {I : Nat → Nat → Int32} {L : Nat → Nat → Int64} {x1 : Int32} {s1 : Int32} {s2 : Int32}
    (H : br_r d 67 0 [some (.ref 54), some (.int s1), some (.int s2)] [] (br_hp n I L) (fun v h => br_r (d + 1) 64 55 [some (.ref 54), some (.int x1)] (v.toList ++ []) (br_bk h) Q)) :
    br_r (d + 1) 64 52 [some (.ref 54), some (.int x1)] [(.int s2), (.int s1), (.ref 54)] (br_hp n I L) Q := br_run_blk br_stops_64 400 ⟨rfl, H⟩
theorem rb_Reader_takesLine_55 {d n : Nat} {Q : br_Q} {I : Nat → Nat → Int32} {L : Nat → Nat → Int64} {x1 : Int32} {s0 : Int32}
    (H : ((s0 = (nI 0)) → (Q (some (.int (nI 0))) (br_hp n I L))) ∧ ((¬ (s0 = (nI 0))) → (br_r d 68 0 [some (.ref 54), some (.int x1), some (.int (I 54 5))] [] (br_hp n I L) (fun v h => br_r (d + 1) 64 67 [some (.ref 54), some (.int x1)] (v.toList ++ []) (br_bk h) Q)))) :
    br_r (d + 1) 64 55 [some (.ref 54), some (.int x1)] [(.int s0)] (br_hp n I L) Q := br_run_blk br_stops_64 400 ⟨fun z3 => ⟨rfl, Or.inl rfl, (H.1 z3)⟩, fun z3 => ⟨rfl, ⟨rfl, (H.2 z3)⟩⟩⟩
theorem rb_Reader_takesLine_67 {d n : Nat} {Q : br_Q} {I : Nat → Nat → Int32} {L : Nat → Nat → Int64} {z0 : Option Value} {z1 : Option Value} {s0 : Int32}
    (H : ((s0 = (nI 0)) → (Q (some (.int (nI 0))) (br_hp n I L))) ∧ ((¬ (s0 = (nI 0))) → (Q (some (.int (nI 1))) (br_hp n I L)))) :
    br_r (d + 1) 64 67 [z0, z1] [(.int s0)] (br_hp n I L) Q := br_run_blk br_stops_64 400 ⟨fun z4 => ⟨rfl, Or.inl rfl, (H.1 z4)⟩, fun z4 => ⟨rfl, Or.inr rfl, (H.2 z4)⟩⟩
def br_stops_65 : List Nat := [0, 6, 40, 47, 71]
theorem rb_Reader_takesMoves_0 {d n : Nat} {Q : br_Q} {I : Nat → Nat → Int32} {L : Nat → Nat → Int64} {x1 : Int32} {z2 : Option Value}
    (H : br_r d 66 0 [some (.ref 54), some (.int (nI 8))] [] (br_hp n I L) (fun v h => br_r (d + 1) 65 6 [some (.ref 54), some (.int x1), z2] (v.toList ++ []) (br_bk h) Q)) :
    br_r (d + 1) 65 0 [some (.ref 54), some (.int x1), z2] [] (br_hp n I L) Q := br_run_blk br_stops_65 400 ⟨rfl, H⟩
theorem rb_Reader_takesMoves_6 {d n : Nat} {Q : br_Q} {I : Nat → Nat → Int32} {L : Nat → Nat → Int64} {x1 : Int32} {z2 : Option Value} {s0 : Int32}
    (H : ((¬ s0 = (nI 0)) → (((¬ (I 55 8) = (nI 47)) → (br_r (d + 1) 65 40 [some (.ref 54), some (.int x1), some (.int (nI 0))] [] (br_hp n I L) Q)) ∧ ((¬ (¬ (I 55 8) = (nI 47))) → (br_r d 62 0 [some (.ref 55), none] [] (br_hp n I L) (fun v h => br_r (d + 1) 65 40 [some (.ref 54), some (.int x1), some (.int (nI 1))] (v.toList ++ []) (br_bk h) Q))))) ∧ ((¬ (¬ s0 = (nI 0))) → (Q (some (.int (nI 0))) (br_hp n I L)))) :
    br_r (d + 1) 65 6 [some (.ref 54), some (.int x1), z2] [(.int s0)] (br_hp n I L) Q := br_run_blk br_stops_65 400 ⟨fun z2 => ⟨rfl, ⟨rfl, ⟨fun z1 => ⟨fun _ => ((H.1 z2).1 z1), fun zz => (br_ccT zz rfl).elim⟩, fun z1 => ⟨fun zz => (br_ccF zz rfl).elim, fun _ => ⟨rfl, ⟨rfl, ((H.1 z2).2 z1)⟩⟩⟩⟩⟩⟩, fun z2 => ⟨rfl, Or.inl rfl, (H.2 z2)⟩⟩
theorem rb_Reader_takesMoves_40 {d n : Nat} {Q : br_Q} {I : Nat → Nat → Int32} {L : Nat → Nat → Int64} {x1 : Int32} {x2 : Int32}
    (H : br_r d 67 0 [some (.ref 54), some (.int (nI 0)), some (.int (nI 99))] [] (br_hp n I L) (fun v h => br_r (d + 1) 65 47 [some (.ref 54), some (.int x1), some (.int x2)] (v.toList ++ []) (br_bk h) Q)) :
    br_r (d + 1) 65 40 [some (.ref 54), some (.int x1), some (.int x2)] [] (br_hp n I L) Q := br_run_blk br_stops_65 400 ⟨rfl, H⟩
theorem rb_Reader_takesMoves_47 {d n : Nat} {Q : br_Q} {I : Nat → Nat → Int32} {L : Nat → Nat → Int64} {x1 : Int32} {x2 : Int32} {s0 : Int32}
    (H : ((s0 = (nI 0)) → (Q (some (.int (nI 0))) (br_hp n I L))) ∧ ((¬ (s0 = (nI 0))) → (((x2 = (nI 0)) → (br_r d 68 0 [some (.ref 54), some (.int x1), some (.int (I 54 5))] [] (br_hp n I L) (fun v h => br_r (d + 1) 65 71 [some (.ref 54), some (.int x1), some (.int x2)] (v.toList ++ []) (br_bk h) Q))) ∧ ((¬ (x2 = (nI 0))) → (br_r d 68 0 [some (.ref 54), some (.int x1), some (.int (-(I 54 5)))] [] (br_hp n I L) (fun v h => br_r (d + 1) 65 71 [some (.ref 54), some (.int x1), some (.int x2)] (v.toList ++ []) (br_bk h) Q)))))) :
    br_r (d + 1) 65 47 [some (.ref 54), some (.int x1), some (.int x2)] [(.int s0)] (br_hp n I L) Q := br_run_blk br_stops_65 400 ⟨fun z4 => ⟨rfl, Or.inl rfl, (H.1 z4)⟩, fun z4 => ⟨fun z3 => ⟨rfl, ⟨rfl, ((H.2 z4).1 z3)⟩⟩, fun z3 => ⟨rfl, ⟨rfl, ((H.2 z4).2 z3)⟩⟩⟩⟩
theorem rb_Reader_takesMoves_71 {d n : Nat} {Q : br_Q} {I : Nat → Nat → Int32} {L : Nat → Nat → Int64} {z0 : Option Value} {z1 : Option Value} {z2 : Option Value} {s0 : Int32}
    (H : ((s0 = (nI 0)) → (Q (some (.int (nI 0))) (br_hp n I L))) ∧ ((¬ (s0 = (nI 0))) → (Q (some (.int (nI 1))) (br_hp n I L)))) :
    br_r (d + 1) 65 71 [z0, z1, z2] [(.int s0)] (br_hp n I L) Q := br_run_blk br_stops_65 400 ⟨fun z5 => ⟨rfl, Or.inl rfl, (H.1 z5)⟩, fun z5 => ⟨rfl, Or.inr rfl, (H.2 z5)⟩⟩
def br_stops_66 : List Nat := [0, 16, 24]
theorem rb_Reader_takes_0 {d n : Nat} {Q : br_Q} {I : Nat → Nat → Int32} {L : Nat → Nat → Int64} {x1 : Int32}
    (H : (((I 55 8) = x1) → (br_r d 62 0 [some (.ref 55), none] [] (br_hp n I L) (fun v h => br_r (d + 1) 66 24 [some (.ref 54), some (.int x1)] (v.toList ++ []) (br_bk h) Q))) ∧ ((¬ ((I 55 8) = x1)) → (br_r d 63 0 [some (.ref 54), some (.int (nI 2))] [] (br_hp n I L) (fun v h => br_r (d + 1) 66 16 [some (.ref 54), some (.int x1)] (v.toList ++ []) (br_bk h) Q)))) :
    br_r (d + 1) 66 0 [some (.ref 54), some (.int x1)] [] (br_hp n I L) Q := br_run_blk br_stops_66 400 ⟨rfl, ⟨rfl, ⟨fun z1 => ⟨rfl, ⟨rfl, (H.1 z1)⟩⟩, fun z1 => ⟨rfl, (H.2 z1)⟩⟩⟩⟩
theorem rb_Reader_takes_16 {d n : Nat} {Q : br_Q} {I : Nat → Nat → Int32} {L : Nat → Nat → Int64} {z0 : Option Value} {z1 : Option Value} {s0 : Int32}
    (H : (s0 = 0 ∨ s0 = 1) ∧ Q (some (.int s0)) (br_hp n I L)) :
    br_r (d + 1) 66 16 [z0, z1] [(.int s0)] (br_hp n I L) Q := br_run_blk br_stops_66 400 ⟨rfl, H⟩
theorem rb_Reader_takes_24 {d n : Nat} {Q : br_Q} {I : Nat → Nat → Int32} {L : Nat → Nat → Int64} {z0 : Option Value} {z1 : Option Value}
    (H : Q (some (.int (nI 1))) (br_hp n I L)) :
    br_r (d + 1) 66 24 [z0, z1] [] (br_hp n I L) Q := br_run_blk br_stops_66 400 ⟨rfl, Or.inr rfl, H⟩
def br_stops_67 : List Nat := [0, 17, 30, 38, 57]
theorem rb_Reader_takesNumber_0 {d n : Nat} {Q : br_Q} {I : Nat → Nat → Int32} {L : Nat → Nat → Int64} {x1 : Int32} {x2 : Int32}
    (H : (((I 55 8) = (nI 41)) → (br_r d 16 0 [some (.int (I 55 10)), some (.int x1), some (.int x2)] [] (br_hp n I L) (fun v h => br_r (d + 1) 67 30 [some (.ref 54), some (.int x1), some (.int x2)] (v.toList ++ []) (br_bk h) Q))) ∧ ((¬ ((I 55 8) = (nI 41))) → (br_r d 63 0 [some (.ref 54), some (.int (nI 2))] [] (br_hp n I L) (fun v h => br_r (d + 1) 67 17 [some (.ref 54), some (.int x1), some (.int x2)] (v.toList ++ []) (br_bk h) Q)))) :
    br_r (d + 1) 67 0 [some (.ref 54), some (.int x1), some (.int x2)] [] (br_hp n I L) Q := br_run_blk br_stops_67 400 ⟨rfl, ⟨rfl, ⟨fun z1 => ⟨rfl, ⟨rfl, (H.1 z1)⟩⟩, fun z1 => ⟨rfl, (H.2 z1)⟩⟩⟩⟩
theorem rb_Reader_takesNumber_17 {d n : Nat} {Q : br_Q} {I : Nat → Nat → Int32} {L : Nat → Nat → Int64} {z0 : Option Value} {z1 : Option Value} {z2 : Option Value} {s0 : Int32}
    (H : (s0 = 0 ∨ s0 = 1) ∧ Q (some (.int s0)) (br_hp n I L)) :
    br_r (d + 1) 67 17 [z0, z1, z2] [(.int s0)] (br_hp n I L) Q := br_run_blk br_stops_67 400 ⟨rfl, H⟩
theorem rb_Reader_takesNumber_30 {d n : Nat} {Q : br_Q} {I : Nat → Nat → Int32} {L : Nat → Nat → Int64} {z1 : Option Value} {z2 : Option Value} {s0 : Int32}
    (H : ((s0 = (nI 0)) → (br_r d 62 0 [some (.ref 55), none] [] (br_hp n (br_u I 54 5 (I 55 10)) L) (fun v h => br_r (d + 1) 67 57 [some (.ref 54), z1, z2] (v.toList ++ []) (br_bk h) Q))) ∧ ((¬ (s0 = (nI 0))) → (br_r d 63 0 [some (.ref 54), some (.int (nI 3))] [] (br_hp n I L) (fun v h => br_r (d + 1) 67 38 [some (.ref 54), z1, z2] (v.toList ++ []) (br_bk h) Q)))) :
    br_r (d + 1) 67 30 [some (.ref 54), z1, z2] [(.int s0)] (br_hp n I L) Q := br_run_blk br_stops_67 400 ⟨fun z2 => ⟨rfl, ⟨rfl, ⟨rfl, ⟨rfl, ⟨rfl, (H.1 z2)⟩⟩⟩⟩⟩, fun z2 => ⟨rfl, (H.2 z2)⟩⟩
theorem rb_Reader_takesNumber_38 {d n : Nat} {Q : br_Q} {I : Nat → Nat → Int32} {L : Nat → Nat → Int64} {z0 : Option Value} {z1 : Option Value} {z2 : Option Value} {s0 : Int32}
    (H : (s0 = 0 ∨ s0 = 1) ∧ Q (some (.int s0)) (br_hp n I L)) :
    br_r (d + 1) 67 38 [z0, z1, z2] [(.int s0)] (br_hp n I L) Q := br_run_blk br_stops_67 400 ⟨rfl, H⟩
theorem rb_Reader_takesNumber_57 {d n : Nat} {Q : br_Q} {I : Nat → Nat → Int32} {L : Nat → Nat → Int64} {z0 : Option Value} {z1 : Option Value} {z2 : Option Value}
    (H : Q (some (.int (nI 1))) (br_hp n I L)) :
    br_r (d + 1) 67 57 [z0, z1, z2] [] (br_hp n I L) Q := br_run_blk br_stops_67 400 ⟨rfl, Or.inr rfl, H⟩
def br_stops_68 : List Nat := [0]
theorem rb_Reader_sets_0 {d n : Nat} {Q : br_Q} {I : Nat → Nat → Int32} {L : Nat → Nat → Int64} {x1 : Int32} {x2 : Int32}
    (H : ((x1 < (nI 0)) → (Q (some (.int (nI 1))) (br_hp n I L))) ∧ ((¬ (x1 < (nI 0))) → ((((nI 18) ≤ x1) → (Q (some (.int (nI 1))) (br_hp n I L))) ∧ ((¬ ((nI 18) ≤ x1)) → ((vp_in x1 18) ∧ (Q (some (.int (nI 1))) (br_hp n (br_u I 61 x1.toNatClampNeg x2) L))))))) :
    br_r d 68 0 [some (.ref 54), some (.int x1), some (.int x2)] [] (br_hp n I L) Q := br_run_blk br_stops_68 400 ⟨fun z2 => ⟨rfl, Or.inr rfl, (H.1 z2)⟩, fun z2 => ⟨rfl, ⟨rfl, ⟨rfl, ⟨fun z1 => ⟨rfl, Or.inr rfl, ((H.2 z2).1 z1)⟩, fun z1 => ⟨rfl, ⟨rfl, ⟨rfl, (Nat.le_of_ble_eq_true rfl), ((H.2 z2).2 z1).1, ⟨rfl, Or.inr rfl, ((H.2 z2).2 z1).2⟩⟩⟩⟩⟩⟩⟩⟩⟩
def br_stops_69 : List Nat := [0, 6, 16, 30, 39, 49, 64]
theorem rb_Reader_takesWay_0 {d n : Nat} {Q : br_Q} {I : Nat → Nat → Int32} {L : Nat → Nat → Int64} {x1 : Int32}
    (H : br_r d 66 0 [some (.ref 54), some (.int (nI 9))] [] (br_hp n I L) (fun v h => br_r (d + 1) 69 6 [some (.ref 54), some (.int x1)] (v.toList ++ []) (br_bk h) Q)) :
    br_r (d + 1) 69 0 [some (.ref 54), some (.int x1)] [] (br_hp n I L) Q := br_run_blk br_stops_69 400 ⟨rfl, H⟩
theorem rb_Reader_takesWay_6 {d n : Nat} {Q : br_Q} {I : Nat → Nat → Int32} {L : Nat → Nat → Int64} {x1 : Int32} {s0 : Int32}
    (H : ((s0 = (nI 0)) → (Q (some (.int (nI 0))) (br_hp n I L))) ∧ ((¬ (s0 = (nI 0))) → (br_r d 67 0 [some (.ref 54), some (.int (nI 0)), some (.int (nI 99))] [] (br_hp n I L) (fun v h => br_r (d + 1) 69 16 [some (.ref 54), some (.int x1)] (v.toList ++ []) (br_bk h) Q)))) :
    br_r (d + 1) 69 6 [some (.ref 54), some (.int x1)] [(.int s0)] (br_hp n I L) Q := br_run_blk br_stops_69 400 ⟨fun z1 => ⟨rfl, Or.inl rfl, (H.1 z1)⟩, fun z1 => ⟨rfl, (H.2 z1)⟩⟩
theorem rb_Reader_takesWay_16 {d n : Nat} {Q : br_Q} {I : Nat → Nat → Int32} {L : Nat → Nat → Int64} {x1 : Int32} {s0 : Int32}
    (H : ((s0 = (nI 0)) → (Q (some (.int (nI 0))) (br_hp n I L))) ∧ ((¬ (s0 = (nI 0))) → (br_r d 68 0 [some (.ref 54), some (.int ((nI 5) + x1)), some (.int (I 54 5))] [] (br_hp n I L) (fun v h => br_r (d + 1) 69 30 [some (.ref 54), some (.int x1)] (v.toList ++ []) (br_bk h) Q)))) :
    br_r (d + 1) 69 16 [some (.ref 54), some (.int x1)] [(.int s0)] (br_hp n I L) Q := br_run_blk br_stops_69 400 ⟨fun z2 => ⟨rfl, Or.inl rfl, (H.1 z2)⟩, fun z2 => ⟨rfl, ⟨rfl, (H.2 z2)⟩⟩⟩
theorem rb_Reader_takesWay_30 {d n : Nat} {Q : br_Q} {I : Nat → Nat → Int32} {L : Nat → Nat → Int64} {x1 : Int32} {s0 : Int32}
    (H : ((s0 = (nI 0)) → (Q (some (.int (nI 0))) (br_hp n I L))) ∧ ((¬ (s0 = (nI 0))) → (br_r d 66 0 [some (.ref 54), some (.int (nI 10))] [] (br_hp n I L) (fun v h => br_r (d + 1) 69 39 [some (.ref 54), some (.int x1)] (v.toList ++ []) (br_bk h) Q)))) :
    br_r (d + 1) 69 30 [some (.ref 54), some (.int x1)] [(.int s0)] (br_hp n I L) Q := br_run_blk br_stops_69 400 ⟨fun z3 => ⟨rfl, Or.inl rfl, (H.1 z3)⟩, fun z3 => ⟨rfl, (H.2 z3)⟩⟩
theorem rb_Reader_takesWay_39 {d n : Nat} {Q : br_Q} {I : Nat → Nat → Int32} {L : Nat → Nat → Int64} {x1 : Int32} {s0 : Int32}
    (H : ((s0 = (nI 0)) → (Q (some (.int (nI 0))) (br_hp n I L))) ∧ ((¬ (s0 = (nI 0))) → (br_r d 67 0 [some (.ref 54), some (.int (nI 0)), some (.int (nI 99))] [] (br_hp n I L) (fun v h => br_r (d + 1) 69 49 [some (.ref 54), some (.int x1)] (v.toList ++ []) (br_bk h) Q)))) :
    br_r (d + 1) 69 39 [some (.ref 54), some (.int x1)] [(.int s0)] (br_hp n I L) Q := br_run_blk br_stops_69 400 ⟨fun z4 => ⟨rfl, Or.inl rfl, (H.1 z4)⟩, fun z4 => ⟨rfl, (H.2 z4)⟩⟩
theorem rb_Reader_takesWay_49 {d n : Nat} {Q : br_Q} {I : Nat → Nat → Int32} {L : Nat → Nat → Int64} {x1 : Int32} {s0 : Int32}
    (H : ((s0 = (nI 0)) → (Q (some (.int (nI 0))) (br_hp n I L))) ∧ ((¬ (s0 = (nI 0))) → (br_r d 68 0 [some (.ref 54), some (.int ((nI 8) + x1)), some (.int (I 54 5))] [] (br_hp n I L) (fun v h => br_r (d + 1) 69 64 [some (.ref 54), some (.int x1)] (v.toList ++ []) (br_bk h) Q)))) :
    br_r (d + 1) 69 49 [some (.ref 54), some (.int x1)] [(.int s0)] (br_hp n I L) Q := br_run_blk br_stops_69 400 ⟨fun z5 => ⟨rfl, Or.inl rfl, (H.1 z5)⟩, fun z5 => ⟨rfl, ⟨rfl, (H.2 z5)⟩⟩⟩
theorem rb_Reader_takesWay_64 {d n : Nat} {Q : br_Q} {I : Nat → Nat → Int32} {L : Nat → Nat → Int64} {z0 : Option Value} {z1 : Option Value} {s0 : Int32}
    (H : ((s0 = (nI 0)) → (Q (some (.int (nI 0))) (br_hp n I L))) ∧ ((¬ (s0 = (nI 0))) → (Q (some (.int (nI 1))) (br_hp n I L)))) :
    br_r (d + 1) 69 64 [z0, z1] [(.int s0)] (br_hp n I L) Q := br_run_blk br_stops_69 400 ⟨fun z6 => ⟨rfl, Or.inl rfl, (H.1 z6)⟩, fun z6 => ⟨rfl, Or.inr rfl, (H.2 z6)⟩⟩
def br_stops_70 : List Nat := [0, 5, 12, 14, 51, 63, 70, 79, 87, 96, 111]
theorem rb_Reader_readRules_0 {d n : Nat} {Q : br_Q} {I : Nat → Nat → Int32} {L : Nat → Nat → Int64} {x1 : Int32} {z2 : Option Value}
    (H : br_r d 40 0 [some (.ref 54), some (.int x1)] [] (br_hp n I L) (fun v h => br_r (d + 1) 70 5 [some (.ref 54), some (.int x1), z2] (v.toList ++ []) (br_bk h) Q)) :
    br_r (d + 1) 70 0 [some (.ref 54), some (.int x1), z2] [] (br_hp n I L) Q := br_run_blk br_stops_70 400 ⟨rfl, H⟩
theorem rb_Reader_readRules_5 {d n : Nat} {Q : br_Q} {I : Nat → Nat → Int32} {L : Nat → Nat → Int64} {z1 : Option Value} {z2 : Option Value}
    (H : br_r d 71 0 [some (.ref 62)] [] (br_hp n I L) (fun v h => br_r (d + 1) 70 12 [some (.ref 54), z1, z2] (v.toList ++ []) (br_bk h) Q)) :
    br_r (d + 1) 70 5 [some (.ref 54), z1, z2] [] (br_hp n I L) Q := br_run_blk br_stops_70 400 ⟨rfl, ⟨rfl, H⟩⟩
theorem rb_Reader_readRules_12 {d n : Nat} {Q : br_Q} {I : Nat → Nat → Int32} {L : Nat → Nat → Int64} {z1 : Option Value} {z2 : Option Value}
    (H : br_r (d + 1) 70 14 [some (.ref 54), (br_kl z1), some (.int (nI 0))] [] (br_hp n I L) Q) :
    br_r (d + 1) 70 12 [some (.ref 54), z1, z2] [] (br_hp n I L) Q := br_run_blk br_stops_70 400 H
theorem rb_Reader_readRules_14 {d n : Nat} {Q : br_Q} {I : Nat → Nat → Int32} {L : Nat → Nat → Int64} {z1 : Option Value} {x2 : Int32}
    (H : (((nI 12) < x2) → (Q (some (.int (nI 0))) (br_hp n I L))) ∧ ((¬ ((nI 12) < x2)) → (((¬ (I 55 8) = (nI 42)) → ((((I 55 8) = (nI 18)) → (((¬ x2 = (nI 12)) → (br_r d 66 0 [some (.ref 54), some (.int (nI 18))] [] (br_hp n I L) (fun v h => br_r (d + 1) 70 70 [some (.ref 54), z1, some (.int x2)] (v.toList ++ []) (br_bk h) Q))) ∧ ((¬ (¬ x2 = (nI 12))) → (br_r d 63 0 [some (.ref 54), some (.int (nI 4))] [] (br_hp n I L) (fun v h => br_r (d + 1) 70 63 [some (.ref 54), z1, some (.int x2)] (v.toList ++ []) (br_bk h) Q))))) ∧ ((¬ ((I 55 8) = (nI 18))) → (br_r d 63 0 [some (.ref 54), some (.int (nI 2))] [] (br_hp n I L) (fun v h => br_r (d + 1) 70 51 [some (.ref 54), z1, some (.int x2)] (v.toList ++ []) (br_bk h) Q))))) ∧ ((¬ (¬ (I 55 8) = (nI 42))) → (Q (some (.int (nI 1))) (br_hp n I L)))))) :
    br_r (d + 1) 70 14 [some (.ref 54), z1, some (.int x2)] [] (br_hp n I L) Q := br_run_blk br_stops_70 400 ⟨fun z4 => ⟨rfl, Or.inl rfl, (H.1 z4)⟩, fun z4 => ⟨rfl, ⟨rfl, ⟨fun z3 => ⟨rfl, ⟨rfl, ⟨fun z2 => ⟨fun z1 => ⟨rfl, ((((H.2 z4).1 z3).1 z2).1 z1)⟩, fun z1 => ⟨rfl, ((((H.2 z4).1 z3).1 z2).2 z1)⟩⟩, fun z2 => ⟨rfl, (((H.2 z4).1 z3).2 z2)⟩⟩⟩⟩, fun z3 => ⟨rfl, Or.inr rfl, ((H.2 z4).2 z3)⟩⟩⟩⟩⟩
theorem rb_Reader_readRules_51 {d n : Nat} {Q : br_Q} {I : Nat → Nat → Int32} {L : Nat → Nat → Int64} {z0 : Option Value} {z1 : Option Value} {z2 : Option Value} {s0 : Int32}
    (H : (s0 = 0 ∨ s0 = 1) ∧ Q (some (.int s0)) (br_hp n I L)) :
    br_r (d + 1) 70 51 [z0, z1, z2] [(.int s0)] (br_hp n I L) Q := br_run_blk br_stops_70 400 ⟨rfl, H⟩
theorem rb_Reader_readRules_63 {d n : Nat} {Q : br_Q} {I : Nat → Nat → Int32} {L : Nat → Nat → Int64} {z0 : Option Value} {z1 : Option Value} {z2 : Option Value} {s0 : Int32}
    (H : (s0 = 0 ∨ s0 = 1) ∧ Q (some (.int s0)) (br_hp n I L)) :
    br_r (d + 1) 70 63 [z0, z1, z2] [(.int s0)] (br_hp n I L) Q := br_run_blk br_stops_70 400 ⟨rfl, H⟩
theorem rb_Reader_readRules_70 {d n : Nat} {Q : br_Q} {I : Nat → Nat → Int32} {L : Nat → Nat → Int64} {z1 : Option Value} {x2 : Int32} {s0 : Int32}
    (H : ((s0 = (nI 0)) → (Q (some (.int (nI 0))) (br_hp n I L))) ∧ ((¬ (s0 = (nI 0))) → (br_r d 66 0 [some (.ref 54), some (.int (nI 19))] [] (br_hp n I L) (fun v h => br_r (d + 1) 70 79 [some (.ref 54), z1, some (.int x2)] (v.toList ++ []) (br_bk h) Q)))) :
    br_r (d + 1) 70 70 [some (.ref 54), z1, some (.int x2)] [(.int s0)] (br_hp n I L) Q := br_run_blk br_stops_70 400 ⟨fun z5 => ⟨rfl, Or.inl rfl, (H.1 z5)⟩, fun z5 => ⟨rfl, (H.2 z5)⟩⟩
theorem rb_Reader_readRules_79 {d n : Nat} {Q : br_Q} {I : Nat → Nat → Int32} {L : Nat → Nat → Int64} {z1 : Option Value} {x2 : Int32} {s0 : Int32}
    (H : ((s0 = (nI 0)) → (Q (some (.int (nI 0))) (br_hp n I L))) ∧ ((¬ (s0 = (nI 0))) → (br_r d 72 0 [some (.ref 54), some (.int (nI 0)), none, none] [] (br_hp n I L) (fun v h => br_r (d + 1) 70 87 [some (.ref 54), z1, some (.int x2)] (v.toList ++ []) (br_bk h) Q)))) :
    br_r (d + 1) 70 79 [some (.ref 54), z1, some (.int x2)] [(.int s0)] (br_hp n I L) Q := br_run_blk br_stops_70 400 ⟨fun z6 => ⟨rfl, Or.inl rfl, (H.1 z6)⟩, fun z6 => ⟨rfl, (H.2 z6)⟩⟩
theorem rb_Reader_readRules_87 {d n : Nat} {Q : br_Q} {I : Nat → Nat → Int32} {L : Nat → Nat → Int64} {z1 : Option Value} {x2 : Int32} {s0 : Int32}
    (H : ((s0 = (nI 0)) → (Q (some (.int (nI 0))) (br_hp n I L))) ∧ ((¬ (s0 = (nI 0))) → (br_r d 66 0 [some (.ref 54), some (.int (nI 44))] [] (br_hp n I L) (fun v h => br_r (d + 1) 70 96 [some (.ref 54), z1, some (.int x2)] (v.toList ++ []) (br_bk h) Q)))) :
    br_r (d + 1) 70 87 [some (.ref 54), z1, some (.int x2)] [(.int s0)] (br_hp n I L) Q := br_run_blk br_stops_70 400 ⟨fun z7 => ⟨rfl, Or.inl rfl, (H.1 z7)⟩, fun z7 => ⟨rfl, (H.2 z7)⟩⟩
theorem rb_Reader_readRules_96 {d n : Nat} {Q : br_Q} {I : Nat → Nat → Int32} {L : Nat → Nat → Int64} {z1 : Option Value} {x2 : Int32} {s0 : Int32}
    (H : ((¬ s0 = (nI 0)) → (br_r d 75 0 [some (.ref 62), some (.int (nI 18)), some (.int (nI 0))] [] (br_hp n I L) (fun v h => br_r (d + 1) 70 111 [some (.ref 54), z1, some (.int x2)] (v.toList ++ []) (br_bk h) Q))) ∧ ((¬ (¬ s0 = (nI 0))) → (Q (some (.int (nI 0))) (br_hp n I L)))) :
    br_r (d + 1) 70 96 [some (.ref 54), z1, some (.int x2)] [(.int s0)] (br_hp n I L) Q := br_run_blk br_stops_70 400 ⟨fun z8 => ⟨rfl, ⟨rfl, (H.1 z8)⟩⟩, fun z8 => ⟨rfl, Or.inl rfl, (H.2 z8)⟩⟩
theorem rb_Reader_readRules_111 {d n : Nat} {Q : br_Q} {I : Nat → Nat → Int32} {L : Nat → Nat → Int64} {z1 : Option Value} {x2 : Int32}
    (H : br_r (d + 1) 70 14 [some (.ref 54), (br_kl z1), some (.int (x2 + (nI 1)))] [] (br_hp n (br_u I 62 2 ((I 62 2) + (nI 1))) L) Q) :
    br_r (d + 1) 70 111 [some (.ref 54), z1, some (.int x2)] [] (br_hp n I L) Q := br_run_blk br_stops_70 400 ⟨rfl, ⟨rfl, ⟨rfl, H⟩⟩⟩
def br_stops_71 : List Nat := [0]
theorem rb_Rules_clear_0 {d n : Nat} {Q : br_Q} {I : Nat → Nat → Int32} {L : Nat → Nat → Int64} {r0 : Nat}
    (H : (br_S0 n r0 = (0, 5)) ∧ ((br_S0 n r0 = (0, 5)) ∧ (Q none (br_hp n (br_u (br_u I r0 1 (nI 0)) r0 2 (nI 0)) L)))) :
    br_r d 71 0 [some (.ref r0)] [] (br_hp n I L) Q := br_run_blk br_stops_71 400 ⟨H.1, ⟨H.2.1, ⟨rfl, H.2.2⟩⟩⟩
def br_stops_72 : List Nat := [0, 5, 8, 38, 43, 54]
theorem rb_Reader_takesTest_0 {d n : Nat} {Q : br_Q} {I : Nat → Nat → Int32} {L : Nat → Nat → Int64} {x1 : Int32} {z2 : Option Value} {z3 : Option Value}
    (H : br_r d 73 0 [some (.ref 54), some (.int x1), none, none] [] (br_hp n I L) (fun v h => br_r (d + 1) 72 5 [some (.ref 54), some (.int x1), z2, z3] (v.toList ++ []) (br_bk h) Q)) :
    br_r (d + 1) 72 0 [some (.ref 54), some (.int x1), z2, z3] [] (br_hp n I L) Q := br_run_blk br_stops_72 400 ⟨rfl, H⟩
theorem rb_Reader_takesTest_5 {d n : Nat} {Q : br_Q} {I : Nat → Nat → Int32} {L : Nat → Nat → Int64} {x1 : Int32} {z2 : Option Value} {z3 : Option Value} {s0 : Int32}
    (H : br_r (d + 1) 72 8 [some (.ref 54), some (.int x1), some (.int s0), some (.int (nI 0))] [] (br_hp n I L) Q) :
    br_r (d + 1) 72 5 [some (.ref 54), some (.int x1), z2, z3] [(.int s0)] (br_hp n I L) Q := br_run_blk br_stops_72 400 H
theorem rb_Reader_takesTest_8 {d n : Nat} {Q : br_Q} {I : Nat → Nat → Int32} {L : Nat → Nat → Int64} {x1 : Int32} {x2 : Int32} {x3 : Int32}
    (H : (((nI 400) ≤ x3) → ((x2 = 0 ∨ x2 = 1) ∧ Q (some (.int x2)) (br_hp n I L))) ∧ ((¬ ((nI 400) ≤ x3)) → (((x2 = (nI 0)) → ((x2 = 0 ∨ x2 = 1) ∧ Q (some (.int x2)) (br_hp n I L))) ∧ ((¬ (x2 = (nI 0))) → (((¬ (I 55 8) = (nI 20)) → ((x2 = 0 ∨ x2 = 1) ∧ Q (some (.int x2)) (br_hp n I L))) ∧ ((¬ (¬ (I 55 8) = (nI 20))) → (br_r d 62 0 [some (.ref 55), none] [] (br_hp n I L) (fun v h => br_r (d + 1) 72 38 [some (.ref 54), some (.int x1), some (.int x2), some (.int x3)] (v.toList ++ []) (br_bk h) Q)))))))) :
    br_r (d + 1) 72 8 [some (.ref 54), some (.int x1), some (.int x2), some (.int x3)] [] (br_hp n I L) Q := br_run_blk br_stops_72 400 ⟨fun z3 => ⟨rfl, (H.1 z3)⟩, fun z3 => ⟨fun z2 => ⟨rfl, ((H.2 z3).1 z2)⟩, fun z2 => ⟨rfl, ⟨rfl, ⟨fun z1 => ⟨rfl, (((H.2 z3).2 z2).1 z1)⟩, fun z1 => ⟨rfl, ⟨rfl, (((H.2 z3).2 z2).2 z1)⟩⟩⟩⟩⟩⟩⟩
theorem rb_Reader_takesTest_38 {d n : Nat} {Q : br_Q} {I : Nat → Nat → Int32} {L : Nat → Nat → Int64} {x1 : Int32} {z2 : Option Value} {x3 : Int32}
    (H : br_r d 73 0 [some (.ref 54), some (.int x1), none, none] [] (br_hp n I L) (fun v h => br_r (d + 1) 72 43 [some (.ref 54), some (.int x1), z2, some (.int x3)] (v.toList ++ []) (br_bk h) Q)) :
    br_r (d + 1) 72 38 [some (.ref 54), some (.int x1), z2, some (.int x3)] [] (br_hp n I L) Q := br_run_blk br_stops_72 400 ⟨rfl, H⟩
theorem rb_Reader_takesTest_43 {d n : Nat} {Q : br_Q} {I : Nat → Nat → Int32} {L : Nat → Nat → Int64} {x1 : Int32} {z2 : Option Value} {x3 : Int32} {s0 : Int32}
    (H : br_r d 75 0 [some (.ref 62), some (.int (nI 20)), some (.int (nI 0))] [] (br_hp n I L) (fun v h => br_r (d + 1) 72 54 [some (.ref 54), some (.int x1), some (.int s0), some (.int x3)] (v.toList ++ []) (br_bk h) Q)) :
    br_r (d + 1) 72 43 [some (.ref 54), some (.int x1), z2, some (.int x3)] [(.int s0)] (br_hp n I L) Q := br_run_blk br_stops_72 400 ⟨rfl, ⟨rfl, H⟩⟩
theorem rb_Reader_takesTest_54 {d n : Nat} {Q : br_Q} {I : Nat → Nat → Int32} {L : Nat → Nat → Int64} {x1 : Int32} {x2 : Int32} {x3 : Int32}
    (H : br_r (d + 1) 72 8 [some (.ref 54), some (.int x1), some (.int x2), some (.int (x3 + (nI 1)))] [] (br_hp n I L) Q) :
    br_r (d + 1) 72 54 [some (.ref 54), some (.int x1), some (.int x2), some (.int x3)] [] (br_hp n I L) Q := br_run_blk br_stops_72 400 H
def br_stops_73 : List Nat := [0, 5, 8, 38, 43, 54]
theorem rb_Reader_takesPart_0 {d n : Nat} {Q : br_Q} {I : Nat → Nat → Int32} {L : Nat → Nat → Int64} {x1 : Int32} {z2 : Option Value} {z3 : Option Value}
    (H : br_r d 74 0 [some (.ref 54), some (.int x1), none, none, none] [] (br_hp n I L) (fun v h => br_r (d + 1) 73 5 [some (.ref 54), some (.int x1), z2, z3] (v.toList ++ []) (br_bk h) Q)) :
    br_r (d + 1) 73 0 [some (.ref 54), some (.int x1), z2, z3] [] (br_hp n I L) Q := br_run_blk br_stops_73 400 ⟨rfl, H⟩
theorem rb_Reader_takesPart_5 {d n : Nat} {Q : br_Q} {I : Nat → Nat → Int32} {L : Nat → Nat → Int64} {x1 : Int32} {z2 : Option Value} {z3 : Option Value} {s0 : Int32}
    (H : br_r (d + 1) 73 8 [some (.ref 54), some (.int x1), some (.int s0), some (.int (nI 0))] [] (br_hp n I L) Q) :
    br_r (d + 1) 73 5 [some (.ref 54), some (.int x1), z2, z3] [(.int s0)] (br_hp n I L) Q := br_run_blk br_stops_73 400 H
theorem rb_Reader_takesPart_8 {d n : Nat} {Q : br_Q} {I : Nat → Nat → Int32} {L : Nat → Nat → Int64} {x1 : Int32} {x2 : Int32} {x3 : Int32}
    (H : (((nI 400) ≤ x3) → ((x2 = 0 ∨ x2 = 1) ∧ Q (some (.int x2)) (br_hp n I L))) ∧ ((¬ ((nI 400) ≤ x3)) → (((x2 = (nI 0)) → ((x2 = 0 ∨ x2 = 1) ∧ Q (some (.int x2)) (br_hp n I L))) ∧ ((¬ (x2 = (nI 0))) → (((¬ (I 55 8) = (nI 21)) → ((x2 = 0 ∨ x2 = 1) ∧ Q (some (.int x2)) (br_hp n I L))) ∧ ((¬ (¬ (I 55 8) = (nI 21))) → (br_r d 62 0 [some (.ref 55), none] [] (br_hp n I L) (fun v h => br_r (d + 1) 73 38 [some (.ref 54), some (.int x1), some (.int x2), some (.int x3)] (v.toList ++ []) (br_bk h) Q)))))))) :
    br_r (d + 1) 73 8 [some (.ref 54), some (.int x1), some (.int x2), some (.int x3)] [] (br_hp n I L) Q := br_run_blk br_stops_73 400 ⟨fun z3 => ⟨rfl, (H.1 z3)⟩, fun z3 => ⟨fun z2 => ⟨rfl, ((H.2 z3).1 z2)⟩, fun z2 => ⟨rfl, ⟨rfl, ⟨fun z1 => ⟨rfl, (((H.2 z3).2 z2).1 z1)⟩, fun z1 => ⟨rfl, ⟨rfl, (((H.2 z3).2 z2).2 z1)⟩⟩⟩⟩⟩⟩⟩
theorem rb_Reader_takesPart_38 {d n : Nat} {Q : br_Q} {I : Nat → Nat → Int32} {L : Nat → Nat → Int64} {x1 : Int32} {z2 : Option Value} {x3 : Int32}
    (H : br_r d 74 0 [some (.ref 54), some (.int x1), none, none, none] [] (br_hp n I L) (fun v h => br_r (d + 1) 73 43 [some (.ref 54), some (.int x1), z2, some (.int x3)] (v.toList ++ []) (br_bk h) Q)) :
    br_r (d + 1) 73 38 [some (.ref 54), some (.int x1), z2, some (.int x3)] [] (br_hp n I L) Q := br_run_blk br_stops_73 400 ⟨rfl, H⟩
theorem rb_Reader_takesPart_43 {d n : Nat} {Q : br_Q} {I : Nat → Nat → Int32} {L : Nat → Nat → Int64} {x1 : Int32} {z2 : Option Value} {x3 : Int32} {s0 : Int32}
    (H : br_r d 75 0 [some (.ref 62), some (.int (nI 21)), some (.int (nI 0))] [] (br_hp n I L) (fun v h => br_r (d + 1) 73 54 [some (.ref 54), some (.int x1), some (.int s0), some (.int x3)] (v.toList ++ []) (br_bk h) Q)) :
    br_r (d + 1) 73 43 [some (.ref 54), some (.int x1), z2, some (.int x3)] [(.int s0)] (br_hp n I L) Q := br_run_blk br_stops_73 400 ⟨rfl, ⟨rfl, H⟩⟩
theorem rb_Reader_takesPart_54 {d n : Nat} {Q : br_Q} {I : Nat → Nat → Int32} {L : Nat → Nat → Int64} {x1 : Int32} {x2 : Int32} {x3 : Int32}
    (H : br_r (d + 1) 73 8 [some (.ref 54), some (.int x1), some (.int x2), some (.int (x3 + (nI 1)))] [] (br_hp n I L) Q) :
    br_r (d + 1) 73 54 [some (.ref 54), some (.int x1), some (.int x2), some (.int x3)] [] (br_hp n I L) Q := br_run_blk br_stops_73 400 H
def br_stops_74 : List Nat := [0, 20, 31, 39, 52, 61, 77, 88, 104, 112, 120, 153, 168, 173, 195]
theorem rb_Reader_takesFact_0 {d n : Nat} {Q : br_Q} {I : Nat → Nat → Int32} {L : Nat → Nat → Int64} {x1 : Int32} {z2 : Option Value} {z3 : Option Value} {z4 : Option Value}
    (H : (((I 55 8) = (nI 22)) → (br_r (d + 1) 74 20 [some (.ref 54), some (.int x1), some (.int (I 55 8)), z3, z4] [] (br_hp n I L) Q)) ∧ ((¬ ((I 55 8) = (nI 22))) → (((¬ (I 55 8) = (nI 45)) → ((((I 55 8) = (nI 11)) → (br_r d 62 0 [some (.ref 55), none] [] (br_hp n I L) (fun v h => br_r (d + 1) 74 120 [some (.ref 54), some (.int x1), some (.int (I 55 8)), z3, z4] (v.toList ++ []) (br_bk h) Q))) ∧ ((¬ ((I 55 8) = (nI 11))) → (br_r d 16 0 [some (.int (I 55 8)), some (.int (nI 23)), some (.int (nI 27))] [] (br_hp n I L) (fun v h => br_r (d + 1) 74 104 [some (.ref 54), some (.int x1), some (.int (I 55 8)), z3, z4] (v.toList ++ []) (br_bk h) Q))))) ∧ ((¬ (¬ (I 55 8) = (nI 45))) → (br_r (d + 1) 74 20 [some (.ref 54), some (.int x1), some (.int (I 55 8)), z3, z4] [] (br_hp n I L) Q))))) :
    br_r (d + 1) 74 0 [some (.ref 54), some (.int x1), z2, z3, z4] [] (br_hp n I L) Q := br_run_blk br_stops_74 400 ⟨rfl, ⟨rfl, ⟨fun z3 => (H.1 z3), fun z3 => ⟨fun z2 => ⟨fun z1 => ⟨rfl, ⟨rfl, (((H.2 z3).1 z2).1 z1)⟩⟩, fun z1 => (((H.2 z3).1 z2).2 z1)⟩, fun z2 => ((H.2 z3).2 z2)⟩⟩⟩⟩
theorem rb_Reader_takesFact_20 {d n : Nat} {Q : br_Q} {I : Nat → Nat → Int32} {L : Nat → Nat → Int64} {x1 : Int32} {x2 : Int32} {z3 : Option Value} {z4 : Option Value}
    (H : ((x1 < (nI 8)) → (br_r d 62 0 [some (.ref 55), none] [] (br_hp n I L) (fun v h => br_r (d + 1) 74 39 [some (.ref 54), some (.int x1), some (.int x2), z3, z4] (v.toList ++ []) (br_bk h) Q))) ∧ ((¬ (x1 < (nI 8))) → (br_r d 63 0 [some (.ref 54), some (.int (nI 5))] [] (br_hp n I L) (fun v h => br_r (d + 1) 74 31 [some (.ref 54), some (.int x1), some (.int x2), z3, z4] (v.toList ++ []) (br_bk h) Q)))) :
    br_r (d + 1) 74 20 [some (.ref 54), some (.int x1), some (.int x2), z3, z4] [] (br_hp n I L) Q := br_run_blk br_stops_74 400 ⟨fun z4 => ⟨rfl, ⟨rfl, (H.1 z4)⟩⟩, fun z4 => ⟨rfl, (H.2 z4)⟩⟩
theorem rb_Reader_takesFact_31 {d n : Nat} {Q : br_Q} {I : Nat → Nat → Int32} {L : Nat → Nat → Int64} {z0 : Option Value} {z1 : Option Value} {z2 : Option Value} {z3 : Option Value} {z4 : Option Value} {s0 : Int32}
    (H : (s0 = 0 ∨ s0 = 1) ∧ Q (some (.int s0)) (br_hp n I L)) :
    br_r (d + 1) 74 31 [z0, z1, z2, z3, z4] [(.int s0)] (br_hp n I L) Q := br_run_blk br_stops_74 400 ⟨rfl, H⟩
theorem rb_Reader_takesFact_39 {d n : Nat} {Q : br_Q} {I : Nat → Nat → Int32} {L : Nat → Nat → Int64} {x1 : Int32} {x2 : Int32} {z3 : Option Value} {z4 : Option Value}
    (H : ((¬ x2 = (nI 45)) → (br_r d 74 0 [some (.ref 54), some (.int (x1 + (nI 1))), none, none, none] [] (br_hp n I L) (fun v h => br_r (d + 1) 74 77 [some (.ref 54), some (.int x1), some (.int x2), z3, z4] (v.toList ++ []) (br_bk h) Q))) ∧ ((¬ (¬ x2 = (nI 45))) → (br_r d 72 0 [some (.ref 54), some (.int (x1 + (nI 1))), none, none] [] (br_hp n I L) (fun v h => br_r (d + 1) 74 52 [some (.ref 54), some (.int x1), some (.int x2), z3, z4] (v.toList ++ []) (br_bk h) Q)))) :
    br_r (d + 1) 74 39 [some (.ref 54), some (.int x1), some (.int x2), z3, z4] [] (br_hp n I L) Q := br_run_blk br_stops_74 400 ⟨fun z5 => ⟨rfl, (H.1 z5)⟩, fun z5 => ⟨rfl, (H.2 z5)⟩⟩
theorem rb_Reader_takesFact_52 {d n : Nat} {Q : br_Q} {I : Nat → Nat → Int32} {L : Nat → Nat → Int64} {z1 : Option Value} {z2 : Option Value} {z3 : Option Value} {z4 : Option Value} {s0 : Int32}
    (H : ((s0 = (nI 0)) → (Q (some (.int (nI 0))) (br_hp n I L))) ∧ ((¬ (s0 = (nI 0))) → (br_r d 66 0 [some (.ref 54), some (.int (nI 46))] [] (br_hp n I L) (fun v h => br_r (d + 1) 74 61 [some (.ref 54), z1, z2, z3, z4] (v.toList ++ []) (br_bk h) Q)))) :
    br_r (d + 1) 74 52 [some (.ref 54), z1, z2, z3, z4] [(.int s0)] (br_hp n I L) Q := br_run_blk br_stops_74 400 ⟨fun z6 => ⟨rfl, Or.inl rfl, (H.1 z6)⟩, fun z6 => ⟨rfl, (H.2 z6)⟩⟩
theorem rb_Reader_takesFact_61 {d n : Nat} {Q : br_Q} {I : Nat → Nat → Int32} {L : Nat → Nat → Int64} {z0 : Option Value} {z1 : Option Value} {z2 : Option Value} {z3 : Option Value} {z4 : Option Value} {s0 : Int32}
    (H : ((s0 = (nI 0)) → (Q (some (.int (nI 0))) (br_hp n I L))) ∧ ((¬ (s0 = (nI 0))) → (Q (some (.int (nI 1))) (br_hp n I L)))) :
    br_r (d + 1) 74 61 [z0, z1, z2, z3, z4] [(.int s0)] (br_hp n I L) Q := br_run_blk br_stops_74 400 ⟨fun z7 => ⟨rfl, Or.inl rfl, (H.1 z7)⟩, fun z7 => ⟨rfl, Or.inr rfl, (H.2 z7)⟩⟩
theorem rb_Reader_takesFact_77 {d n : Nat} {Q : br_Q} {I : Nat → Nat → Int32} {L : Nat → Nat → Int64} {z1 : Option Value} {z2 : Option Value} {z3 : Option Value} {z4 : Option Value} {s0 : Int32}
    (H : br_r d 75 0 [some (.ref 62), some (.int (nI 22)), some (.int (nI 0))] [] (br_hp n I L) (fun v h => br_r (d + 1) 74 88 [some (.ref 54), z1, (br_kl z2), some (.int s0), z4] (v.toList ++ []) (br_bk h) Q)) :
    br_r (d + 1) 74 77 [some (.ref 54), z1, z2, z3, z4] [(.int s0)] (br_hp n I L) Q := br_run_blk br_stops_74 400 ⟨rfl, ⟨rfl, H⟩⟩
theorem rb_Reader_takesFact_88 {d n : Nat} {Q : br_Q} {I : Nat → Nat → Int32} {L : Nat → Nat → Int64} {z0 : Option Value} {z1 : Option Value} {z2 : Option Value} {x3 : Int32} {z4 : Option Value}
    (H : (x3 = 0 ∨ x3 = 1) ∧ Q (some (.int x3)) (br_hp n I L)) :
    br_r (d + 1) 74 88 [z0, z1, z2, some (.int x3), z4] [] (br_hp n I L) Q := br_run_blk br_stops_74 400 ⟨rfl, H⟩
theorem rb_Reader_takesFact_104 {d n : Nat} {Q : br_Q} {I : Nat → Nat → Int32} {L : Nat → Nat → Int64} {z1 : Option Value} {x2 : Int32} {z3 : Option Value} {z4 : Option Value} {s0 : Int32}
    (H : ((s0 = (nI 0)) → (br_r d 62 0 [some (.ref 55), none] [] (br_hp n I L) (fun v h => br_r (d + 1) 74 120 [some (.ref 54), z1, some (.int x2), z3, z4] (v.toList ++ []) (br_bk h) Q))) ∧ ((¬ (s0 = (nI 0))) → (br_r d 63 0 [some (.ref 54), some (.int (nI 2))] [] (br_hp n I L) (fun v h => br_r (d + 1) 74 112 [some (.ref 54), z1, some (.int x2), z3, z4] (v.toList ++ []) (br_bk h) Q)))) :
    br_r (d + 1) 74 104 [some (.ref 54), z1, some (.int x2), z3, z4] [(.int s0)] (br_hp n I L) Q := br_run_blk br_stops_74 400 ⟨fun z8 => ⟨rfl, ⟨rfl, (H.1 z8)⟩⟩, fun z8 => ⟨rfl, (H.2 z8)⟩⟩
theorem rb_Reader_takesFact_112 {d n : Nat} {Q : br_Q} {I : Nat → Nat → Int32} {L : Nat → Nat → Int64} {z0 : Option Value} {z1 : Option Value} {z2 : Option Value} {z3 : Option Value} {z4 : Option Value} {s0 : Int32}
    (H : (s0 = 0 ∨ s0 = 1) ∧ Q (some (.int s0)) (br_hp n I L)) :
    br_r (d + 1) 74 112 [z0, z1, z2, z3, z4] [(.int s0)] (br_hp n I L) Q := br_run_blk br_stops_74 400 ⟨rfl, H⟩
theorem rb_Reader_takesFact_120 {d n : Nat} {Q : br_Q} {I : Nat → Nat → Int32} {L : Nat → Nat → Int64} {z1 : Option Value} {x2 : Int32} {z3 : Option Value} {z4 : Option Value}
    (H : ((¬ x2 = (nI 25)) → (((¬ x2 = (nI 11)) → (br_r d 26 0 [some (.ref 2), some (.int (x2 - (nI 11)))] [] (br_hp n I L) (fun v h => br_r (d + 1) 74 153 [some (.ref 54), z1, some (.int x2), some (.int (nI 0)), z4] (v.toList ++ []) (br_bk h) Q))) ∧ ((¬ (¬ x2 = (nI 11))) → (br_r (d + 1) 74 153 [some (.ref 54), z1, some (.int x2), some (.int (nI 0)), z4] [(.int (nI 20))] (br_hp n I L) Q)))) ∧ ((¬ (¬ x2 = (nI 25))) → (((¬ x2 = (nI 11)) → (br_r d 26 0 [some (.ref 2), some (.int (x2 - (nI 11)))] [] (br_hp n I L) (fun v h => br_r (d + 1) 74 153 [some (.ref 54), z1, some (.int x2), some (.int (nI 1)), z4] (v.toList ++ []) (br_bk h) Q))) ∧ ((¬ (¬ x2 = (nI 11))) → (br_r (d + 1) 74 153 [some (.ref 54), z1, some (.int x2), some (.int (nI 1)), z4] [(.int (nI 20))] (br_hp n I L) Q))))) :
    br_r (d + 1) 74 120 [some (.ref 54), z1, some (.int x2), z3, z4] [] (br_hp n I L) Q := br_run_blk br_stops_74 400 ⟨fun z11 => ⟨fun z9 => ((H.1 z11).1 z9), fun z9 => ((H.1 z11).2 z9)⟩, fun z11 => ⟨fun z10 => ((H.2 z11).1 z10), fun z10 => ((H.2 z11).2 z10)⟩⟩
theorem rb_Reader_takesFact_153 {d n : Nat} {Q : br_Q} {I : Nat → Nat → Int32} {L : Nat → Nat → Int64} {z1 : Option Value} {x2 : Int32} {x3 : Int32} {z4 : Option Value} {s0 : Int32}
    (H : ((x2 = (nI 23)) → (br_r (d + 1) 74 173 [some (.ref 54), z1, some (.int x2), some (.int x3), some (.int s0)] [] (br_hp n I L) Q)) ∧ ((¬ (x2 = (nI 23))) → (br_r d 67 0 [some (.ref 54), some (.int x3), some (.int s0)] [] (br_hp n I L) (fun v h => br_r (d + 1) 74 168 [some (.ref 54), z1, some (.int x2), some (.int x3), some (.int s0)] (v.toList ++ []) (br_bk h) Q)))) :
    br_r (d + 1) 74 153 [some (.ref 54), z1, some (.int x2), some (.int x3), z4] [(.int s0)] (br_hp n I L) Q := br_run_blk br_stops_74 400 ⟨fun z12 => (H.1 z12), fun z12 => ⟨rfl, (H.2 z12)⟩⟩
theorem rb_Reader_takesFact_168 {d n : Nat} {Q : br_Q} {I : Nat → Nat → Int32} {L : Nat → Nat → Int64} {z1 : Option Value} {x2 : Int32} {z3 : Option Value} {z4 : Option Value} {s0 : Int32}
    (H : ((¬ s0 = (nI 0)) → (br_r (d + 1) 74 173 [some (.ref 54), z1, some (.int x2), z3, z4] [] (br_hp n I L) Q)) ∧ ((¬ (¬ s0 = (nI 0))) → (Q (some (.int (nI 0))) (br_hp n I L)))) :
    br_r (d + 1) 74 168 [some (.ref 54), z1, some (.int x2), z3, z4] [(.int s0)] (br_hp n I L) Q := br_run_blk br_stops_74 400 ⟨fun z13 => (H.1 z13), fun z13 => ⟨rfl, Or.inl rfl, (H.2 z13)⟩⟩
theorem rb_Reader_takesFact_173 {d n : Nat} {Q : br_Q} {I : Nat → Nat → Int32} {L : Nat → Nat → Int64} {z1 : Option Value} {x2 : Int32} {z3 : Option Value} {z4 : Option Value}
    (H : ((¬ x2 = (nI 23)) → (br_r d 75 0 [some (.ref 62), some (.int x2), some (.int (I 54 5))] [] (br_hp n I L) (fun v h => br_r (d + 1) 74 195 [some (.ref 54), z1, some (.int x2), z3, z4] (v.toList ++ []) (br_bk h) Q))) ∧ ((¬ (¬ x2 = (nI 23))) → (br_r d 75 0 [some (.ref 62), some (.int x2), some (.int (nI 0))] [] (br_hp n I L) (fun v h => br_r (d + 1) 74 195 [some (.ref 54), z1, some (.int x2), z3, z4] (v.toList ++ []) (br_bk h) Q)))) :
    br_r (d + 1) 74 173 [some (.ref 54), z1, some (.int x2), z3, z4] [] (br_hp n I L) Q := br_run_blk br_stops_74 400 ⟨rfl, ⟨fun z14 => ⟨rfl, ⟨rfl, (H.1 z14)⟩⟩, fun z14 => ⟨rfl, (H.2 z14)⟩⟩⟩
theorem rb_Reader_takesFact_195 {d n : Nat} {Q : br_Q} {I : Nat → Nat → Int32} {L : Nat → Nat → Int64} {z0 : Option Value} {z1 : Option Value} {z2 : Option Value} {z3 : Option Value} {z4 : Option Value}
    (H : Q (some (.int (nI 1))) (br_hp n I L)) :
    br_r (d + 1) 74 195 [z0, z1, z2, z3, z4] [] (br_hp n I L) Q := br_run_blk br_stops_74 400 ⟨rfl, Or.inr rfl, H⟩
