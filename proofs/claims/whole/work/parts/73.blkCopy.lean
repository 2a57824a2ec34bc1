set_option maxRecDepth 100000
set_option maxHeartbeats 4000000
def br_stops_182a : List Nat := [0, 15, 30, 38, 53, 68, 83, 98, 113, 121, 129, 131, 156, 185, 187, 207, 236, 247, 258, 269]
theorem rb_World_copya_0 {d n : Nat} {Q : br_Q} {I : Nat → Nat → Int32} {L : Nat → Nat → Int64} {z2 : Option Value}
    (H : br_r (d + 1) 182 15 [some (.ref 83), some (.ref 9), z2] [] (br_hp n (br_cp I 10 84 0 0 18) L) Q) :
    br_r (d + 1) 182 0 [some (.ref 83), some (.ref 9), z2] [] (br_hp n I L) Q := br_run_blk br_stops_182a 400 ⟨rfl, ⟨rfl, ⟨(Nat.le_of_ble_eq_true rfl), (Nat.le_of_ble_eq_true rfl), (of_decide_eq_true rfl), (of_decide_eq_true rfl), (of_decide_eq_true rfl), (Nat.le_of_ble_eq_true rfl), (Nat.le_of_ble_eq_true rfl), (Nat.le_of_ble_eq_true rfl), Or.inl ⟨Or.inl ⟨rfl, rfl⟩, H⟩⟩⟩⟩
theorem rb_World_copya_15 {d n : Nat} {Q : br_Q} {I : Nat → Nat → Int32} {L : Nat → Nat → Int64} {z2 : Option Value}
    (H : br_r (d + 1) 182 30 [some (.ref 83), some (.ref 9), z2] [] (br_hp n (br_cp I 11 85 0 0 18) L) Q) :
    br_r (d + 1) 182 15 [some (.ref 83), some (.ref 9), z2] [] (br_hp n I L) Q := br_run_blk br_stops_182a 400 ⟨rfl, ⟨rfl, ⟨(Nat.le_of_ble_eq_true rfl), (Nat.le_of_ble_eq_true rfl), (of_decide_eq_true rfl), (of_decide_eq_true rfl), (of_decide_eq_true rfl), (Nat.le_of_ble_eq_true rfl), (Nat.le_of_ble_eq_true rfl), (Nat.le_of_ble_eq_true rfl), Or.inl ⟨Or.inr ⟨rfl, rfl⟩, H⟩⟩⟩⟩
theorem rb_World_copya_30 {d n : Nat} {Q : br_Q} {I : Nat → Nat → Int32} {L : Nat → Nat → Int64} {z2 : Option Value}
    (H : br_r (d + 1) 182 38 [some (.ref 83), some (.ref 9), z2] [] (br_hp n (br_u I 83 2 (I 9 2)) L) Q) :
    br_r (d + 1) 182 30 [some (.ref 83), some (.ref 9), z2] [] (br_hp n I L) Q := br_run_blk br_stops_182a 400 ⟨rfl, ⟨rfl, H⟩⟩
theorem rb_World_copya_38 {d n : Nat} {Q : br_Q} {I : Nat → Nat → Int32} {L : Nat → Nat → Int64} {z2 : Option Value}
    (H : br_r (d + 1) 182 53 [some (.ref 83), some (.ref 9), z2] [] (br_hp n (br_cp I 12 86 0 0 40) L) Q) :
    br_r (d + 1) 182 38 [some (.ref 83), some (.ref 9), z2] [] (br_hp n I L) Q := br_run_blk br_stops_182a 400 ⟨rfl, ⟨rfl, ⟨(Nat.le_of_ble_eq_true rfl), (Nat.le_of_ble_eq_true rfl), (of_decide_eq_true rfl), (of_decide_eq_true rfl), (of_decide_eq_true rfl), (Nat.le_of_ble_eq_true rfl), (Nat.le_of_ble_eq_true rfl), (Nat.le_of_ble_eq_true rfl), Or.inl ⟨Or.inl ⟨rfl, rfl⟩, H⟩⟩⟩⟩
theorem rb_World_copya_53 {d n : Nat} {Q : br_Q} {I : Nat → Nat → Int32} {L : Nat → Nat → Int64} {z2 : Option Value}
    (H : br_r (d + 1) 182 68 [some (.ref 83), some (.ref 9), z2] [] (br_hp n (br_cp I 13 87 0 0 40) L) Q) :
    br_r (d + 1) 182 53 [some (.ref 83), some (.ref 9), z2] [] (br_hp n I L) Q := br_run_blk br_stops_182a 400 ⟨rfl, ⟨rfl, ⟨(Nat.le_of_ble_eq_true rfl), (Nat.le_of_ble_eq_true rfl), (of_decide_eq_true rfl), (of_decide_eq_true rfl), (of_decide_eq_true rfl), (Nat.le_of_ble_eq_true rfl), (Nat.le_of_ble_eq_true rfl), (Nat.le_of_ble_eq_true rfl), Or.inl ⟨Or.inl ⟨rfl, rfl⟩, H⟩⟩⟩⟩
theorem rb_World_copya_68 {d n : Nat} {Q : br_Q} {I : Nat → Nat → Int32} {L : Nat → Nat → Int64} {z2 : Option Value}
    (H : br_r (d + 1) 182 83 [some (.ref 83), some (.ref 9), z2] [] (br_hp n (br_cp I 14 88 0 0 40) L) Q) :
    br_r (d + 1) 182 68 [some (.ref 83), some (.ref 9), z2] [] (br_hp n I L) Q := br_run_blk br_stops_182a 400 ⟨rfl, ⟨rfl, ⟨(Nat.le_of_ble_eq_true rfl), (Nat.le_of_ble_eq_true rfl), (of_decide_eq_true rfl), (of_decide_eq_true rfl), (of_decide_eq_true rfl), (Nat.le_of_ble_eq_true rfl), (Nat.le_of_ble_eq_true rfl), (Nat.le_of_ble_eq_true rfl), Or.inl ⟨Or.inl ⟨rfl, rfl⟩, H⟩⟩⟩⟩
theorem rb_World_copya_83 {d n : Nat} {Q : br_Q} {I : Nat → Nat → Int32} {L : Nat → Nat → Int64} {z2 : Option Value}
    (H : br_r (d + 1) 182 98 [some (.ref 83), some (.ref 9), z2] [] (br_hp n (br_cp I 15 89 0 0 40) L) Q) :
    br_r (d + 1) 182 83 [some (.ref 83), some (.ref 9), z2] [] (br_hp n I L) Q := br_run_blk br_stops_182a 400 ⟨rfl, ⟨rfl, ⟨(Nat.le_of_ble_eq_true rfl), (Nat.le_of_ble_eq_true rfl), (of_decide_eq_true rfl), (of_decide_eq_true rfl), (of_decide_eq_true rfl), (Nat.le_of_ble_eq_true rfl), (Nat.le_of_ble_eq_true rfl), (Nat.le_of_ble_eq_true rfl), Or.inl ⟨Or.inl ⟨rfl, rfl⟩, H⟩⟩⟩⟩
theorem rb_World_copya_98 {d n : Nat} {Q : br_Q} {I : Nat → Nat → Int32} {L : Nat → Nat → Int64} {z2 : Option Value}
    (H : br_r (d + 1) 182 113 [some (.ref 83), some (.ref 9), z2] [] (br_hp n (br_cp I 16 90 0 0 40) L) Q) :
    br_r (d + 1) 182 98 [some (.ref 83), some (.ref 9), z2] [] (br_hp n I L) Q := br_run_blk br_stops_182a 400 ⟨rfl, ⟨rfl, ⟨(Nat.le_of_ble_eq_true rfl), (Nat.le_of_ble_eq_true rfl), (of_decide_eq_true rfl), (of_decide_eq_true rfl), (of_decide_eq_true rfl), (Nat.le_of_ble_eq_true rfl), (Nat.le_of_ble_eq_true rfl), (Nat.le_of_ble_eq_true rfl), Or.inl ⟨Or.inr ⟨rfl, rfl⟩, H⟩⟩⟩⟩
theorem rb_World_copya_113 {d n : Nat} {Q : br_Q} {I : Nat → Nat → Int32} {L : Nat → Nat → Int64} {z2 : Option Value}
    (H : br_r (d + 1) 182 121 [some (.ref 83), some (.ref 9), z2] [] (br_hp n (br_u I 83 8 (I 9 8)) L) Q) :
    br_r (d + 1) 182 113 [some (.ref 83), some (.ref 9), z2] [] (br_hp n I L) Q := br_run_blk br_stops_182a 400 ⟨rfl, ⟨rfl, H⟩⟩
theorem rb_World_copya_121 {d n : Nat} {Q : br_Q} {I : Nat → Nat → Int32} {L : Nat → Nat → Int64} {z2 : Option Value}
    (H : br_r (d + 1) 182 129 [some (.ref 83), some (.ref 9), z2] [] (br_hp n (br_u I 83 9 (I 9 9)) L) Q) :
    br_r (d + 1) 182 121 [some (.ref 83), some (.ref 9), z2] [] (br_hp n I L) Q := br_run_blk br_stops_182a 400 ⟨rfl, ⟨rfl, H⟩⟩
theorem rb_World_copya_129 {d n : Nat} {Q : br_Q} {I : Nat → Nat → Int32} {L : Nat → Nat → Int64} {z2 : Option Value}
    (H : br_r (d + 1) 182 131 [some (.ref 83), some (.ref 9), some (.int (nI 0))] [] (br_hp n I L) Q) :
    br_r (d + 1) 182 129 [some (.ref 83), some (.ref 9), z2] [] (br_hp n I L) Q := br_run_blk br_stops_182a 400 H
theorem rb_World_copya_131 {d n : Nat} {Q : br_Q} {I : Nat → Nat → Int32} {L : Nat → Nat → Int64} {x2 : Int32}
    (H : (((nI 6) ≤ x2) → (br_r d 76 0 [some (.ref 99), some (.ref 25)] [] (br_hp n I L) (fun v h => br_r (d + 1) 182 185 [some (.ref 83), some (.ref 9), some (.int x2)] (v.toList ++ []) (br_bk h) Q))) ∧ ((¬ ((nI 6) ≤ x2)) → ((vp_in x2 6) ∧ ((vp_in x2 6) ∧ ((8 ≤ br_R0 17 x2.toNatClampNeg) ∧ (8 ≤ br_R0 91 x2.toNatClampNeg) ∧ (0 + 40 ≤ (br_S0 n (br_R0 17 x2.toNatClampNeg)).2) ∧ (0 + 40 ≤ (br_S0 n (br_R0 91 x2.toNatClampNeg)).2) ∧ (((br_S0 n (br_R0 17 x2.toNatClampNeg)).1 = 1 ∧ (br_S0 n (br_R0 91 x2.toNatClampNeg)).1 = 1) ∧ (br_r (d + 1) 182 156 [some (.ref 83), some (.ref 9), some (.int x2)] [] (br_hp n (br_cp I (br_R0 17 x2.toNatClampNeg) (br_R0 91 x2.toNatClampNeg) 0 0 40) L) Q))))))) :
    br_r (d + 1) 182 131 [some (.ref 83), some (.ref 9), some (.int x2)] [] (br_hp n I L) Q := br_run_blk br_stops_182a 400 ⟨fun z1 => ⟨rfl, ⟨rfl, ⟨rfl, (H.1 z1)⟩⟩⟩, fun z1 => ⟨rfl, ⟨rfl, (H.2 z1).1, ⟨rfl, ⟨rfl, (H.2 z1).2.1, ⟨(H.2 z1).2.2.1, (H.2 z1).2.2.2.1, (of_decide_eq_true rfl), (of_decide_eq_true rfl), (of_decide_eq_true rfl), (H.2 z1).2.2.2.2.1, (H.2 z1).2.2.2.2.2.1, (Nat.le_of_ble_eq_true rfl), Or.inl ⟨Or.inl (H.2 z1).2.2.2.2.2.2.1, (H.2 z1).2.2.2.2.2.2.2⟩⟩⟩⟩⟩⟩⟩
theorem rb_World_copya_156 {d n : Nat} {Q : br_Q} {I : Nat → Nat → Int32} {L : Nat → Nat → Int64} {x2 : Int32}
    (H : (vp_in x2 6) ∧ ((vp_in x2 6) ∧ (br_r (d + 1) 182 131 [some (.ref 83), some (.ref 9), some (.int (x2 + (nI 1)))] [] (br_hp n (br_u I 98 x2.toNatClampNeg (I 24 x2.toNatClampNeg)) L) Q))) :
    br_r (d + 1) 182 156 [some (.ref 83), some (.ref 9), some (.int x2)] [] (br_hp n I L) Q := br_run_blk br_stops_182a 400 ⟨rfl, ⟨rfl, ⟨rfl, H.1, ⟨rfl, (Nat.le_of_ble_eq_true rfl), H.2.1, H.2.2⟩⟩⟩⟩
theorem rb_World_copya_185 {d n : Nat} {Q : br_Q} {I : Nat → Nat → Int32} {L : Nat → Nat → Int64} {z2 : Option Value}
    (H : br_r (d + 1) 182 187 [some (.ref 83), some (.ref 9), some (.int (nI 0))] [] (br_hp n I L) Q) :
    br_r (d + 1) 182 185 [some (.ref 83), some (.ref 9), z2] [] (br_hp n I L) Q := br_run_blk br_stops_182a 400 H
theorem rb_World_copya_187 {d n : Nat} {Q : br_Q} {I : Nat → Nat → Int32} {L : Nat → Nat → Int64} {x2 : Int32}
    (H : (((nI 4) ≤ x2) → (br_r d 77 0 [some (.ref 103), some (.ref 29)] [] (br_hp n I L) (fun v h => br_r (d + 1) 182 236 [some (.ref 83), some (.ref 9), some (.int x2)] (v.toList ++ []) (br_bk h) Q))) ∧ ((¬ ((nI 4) ≤ x2)) → ((vp_in x2 4) ∧ ((vp_in x2 4) ∧ ((br_S0 n (br_R0 101 x2.toNatClampNeg) = (0, 2)) ∧ (br_r d 76 0 [some (.ref (br_R0 101 x2.toNatClampNeg)), some (.ref (br_R0 27 x2.toNatClampNeg))] [] (br_hp n I L) (fun v h => br_r (d + 1) 182 207 [some (.ref 83), some (.ref 9), some (.int x2)] (v.toList ++ []) (br_bk h) Q))))))) :
    br_r (d + 1) 182 187 [some (.ref 83), some (.ref 9), some (.int x2)] [] (br_hp n I L) Q := br_run_blk br_stops_182a 400 ⟨fun z2 => ⟨rfl, ⟨rfl, ⟨rfl, (H.1 z2)⟩⟩⟩, fun z2 => ⟨rfl, ⟨rfl, (H.2 z2).1, ⟨rfl, ⟨rfl, (H.2 z2).2.1, ⟨(H.2 z2).2.2.1, (H.2 z2).2.2.2⟩⟩⟩⟩⟩⟩
theorem rb_World_copya_207 {d n : Nat} {Q : br_Q} {I : Nat → Nat → Int32} {L : Nat → Nat → Int64} {x2 : Int32}
    (H : (vp_in x2 4) ∧ ((vp_in x2 4) ∧ (br_r (d + 1) 182 187 [some (.ref 83), some (.ref 9), some (.int (x2 + (nI 1)))] [] (br_hp n (br_u I 102 x2.toNatClampNeg (vp_nar .boolean (I 28 x2.toNatClampNeg))) L) Q))) :
    br_r (d + 1) 182 207 [some (.ref 83), some (.ref 9), some (.int x2)] [] (br_hp n I L) Q := br_run_blk br_stops_182a 400 ⟨rfl, ⟨rfl, ⟨Or.inl rfl, H.1, ⟨(Nat.le_of_ble_eq_true rfl), H.2.1, Or.inl ⟨rfl, H.2.2⟩⟩⟩⟩⟩
theorem rb_World_copya_236 {d n : Nat} {Q : br_Q} {I : Nat → Nat → Int32} {L : Nat → Nat → Int64} {z2 : Option Value}
    (H : br_r d 183 0 [some (.ref 105), some (.ref 31)] [] (br_hp n I L) (fun v h => br_r (d + 1) 182 247 [some (.ref 83), some (.ref 9), z2] (v.toList ++ []) (br_bk h) Q)) :
    br_r (d + 1) 182 236 [some (.ref 83), some (.ref 9), z2] [] (br_hp n I L) Q := br_run_blk br_stops_182a 400 ⟨rfl, ⟨rfl, ⟨rfl, H⟩⟩⟩
theorem rb_World_copya_247 {d n : Nat} {Q : br_Q} {I : Nat → Nat → Int32} {L : Nat → Nat → Int64} {z2 : Option Value}
    (H : br_r d 184 0 [some (.ref 109), some (.ref 35)] [] (br_hp n I L) (fun v h => br_r (d + 1) 182 258 [some (.ref 83), some (.ref 9), z2] (v.toList ++ []) (br_bk h) Q)) :
    br_r (d + 1) 182 247 [some (.ref 83), some (.ref 9), z2] [] (br_hp n I L) Q := br_run_blk br_stops_182a 400 ⟨rfl, ⟨rfl, ⟨rfl, H⟩⟩⟩
theorem rb_World_copya_258 {d n : Nat} {Q : br_Q} {I : Nat → Nat → Int32} {L : Nat → Nat → Int64} {z2 : Option Value}
    (H : br_r d 185 0 [some (.ref 113), some (.ref 39)] [] (br_hp n I L) (fun v h => br_r (d + 1) 182 269 [some (.ref 83), some (.ref 9), z2] (v.toList ++ []) (br_bk h) Q)) :
    br_r (d + 1) 182 258 [some (.ref 83), some (.ref 9), z2] [] (br_hp n I L) Q := br_run_blk br_stops_182a 400 ⟨rfl, ⟨rfl, ⟨rfl, H⟩⟩⟩
theorem rb_World_copya_269 {d n : Nat} {Q : br_Q} {I : Nat → Nat → Int32} {L : Nat → Nat → Int64} {z0 : Option Value} {z1 : Option Value} {z2 : Option Value}
    (H : Q none (br_hp n I L)) :
    br_r (d + 1) 182 269 [z0, z1, z2] [] (br_hp n I L) Q := br_run_blk br_stops_182a 400 ⟨rfl, H⟩
def br_stops_183a : List Nat := [0, 8, 23, 38, 53]
theorem rb_Films_copya_0 {d n : Nat} {Q : br_Q} {I : Nat → Nat → Int32} {L : Nat → Nat → Int64} 
    (H : br_r d 183 8 [some (.ref 105), some (.ref 31)] [] (br_hp n (br_u I 105 3 (I 31 3)) L) Q) :
    br_r d 183 0 [some (.ref 105), some (.ref 31)] [] (br_hp n I L) Q := br_run_blk br_stops_183a 400 ⟨rfl, ⟨rfl, H⟩⟩
theorem rb_Films_copya_8 {d n : Nat} {Q : br_Q} {I : Nat → Nat → Int32} {L : Nat → Nat → Int64} 
    (H : br_r d 183 23 [some (.ref 105), some (.ref 31)] [] (br_hp n (br_cp I 32 106 0 0 24) L) Q) :
    br_r d 183 8 [some (.ref 105), some (.ref 31)] [] (br_hp n I L) Q := br_run_blk br_stops_183a 400 ⟨rfl, ⟨rfl, ⟨(Nat.le_of_ble_eq_true rfl), (Nat.le_of_ble_eq_true rfl), (of_decide_eq_true rfl), (of_decide_eq_true rfl), (of_decide_eq_true rfl), (Nat.le_of_ble_eq_true rfl), (Nat.le_of_ble_eq_true rfl), (Nat.le_of_ble_eq_true rfl), Or.inl ⟨Or.inl ⟨rfl, rfl⟩, H⟩⟩⟩⟩
theorem rb_Films_copya_23 {d n : Nat} {Q : br_Q} {I : Nat → Nat → Int32} {L : Nat → Nat → Int64} 
    (H : br_r d 183 38 [some (.ref 105), some (.ref 31)] [] (br_hp n (br_cp I 33 107 0 0 24) L) Q) :
    br_r d 183 23 [some (.ref 105), some (.ref 31)] [] (br_hp n I L) Q := br_run_blk br_stops_183a 400 ⟨rfl, ⟨rfl, ⟨(Nat.le_of_ble_eq_true rfl), (Nat.le_of_ble_eq_true rfl), (of_decide_eq_true rfl), (of_decide_eq_true rfl), (of_decide_eq_true rfl), (Nat.le_of_ble_eq_true rfl), (Nat.le_of_ble_eq_true rfl), (Nat.le_of_ble_eq_true rfl), Or.inl ⟨Or.inr ⟨rfl, rfl⟩, H⟩⟩⟩⟩
theorem rb_Films_copya_38 {d n : Nat} {Q : br_Q} {I : Nat → Nat → Int32} {L : Nat → Nat → Int64} 
    (H : br_r d 183 53 [some (.ref 105), some (.ref 31)] [] (br_hp n (br_cp I 34 108 0 0 24) L) Q) :
    br_r d 183 38 [some (.ref 105), some (.ref 31)] [] (br_hp n I L) Q := br_run_blk br_stops_183a 400 ⟨rfl, ⟨rfl, ⟨(Nat.le_of_ble_eq_true rfl), (Nat.le_of_ble_eq_true rfl), (of_decide_eq_true rfl), (of_decide_eq_true rfl), (of_decide_eq_true rfl), (Nat.le_of_ble_eq_true rfl), (Nat.le_of_ble_eq_true rfl), (Nat.le_of_ble_eq_true rfl), Or.inl ⟨Or.inl ⟨rfl, rfl⟩, H⟩⟩⟩⟩
theorem rb_Films_copya_53 {d n : Nat} {Q : br_Q} {I : Nat → Nat → Int32} {L : Nat → Nat → Int64} {z0 : Option Value} {z1 : Option Value}
    (H : Q none (br_hp n I L)) :
    br_r d 183 53 [z0, z1] [] (br_hp n I L) Q := br_run_blk br_stops_183a 400 ⟨rfl, H⟩
def br_stops_184a : List Nat := [0, 8, 23, 38, 53]
theorem rb_Marks_copya_0 {d n : Nat} {Q : br_Q} {I : Nat → Nat → Int32} {L : Nat → Nat → Int64} 
    (H : br_r d 184 8 [some (.ref 109), some (.ref 35)] [] (br_hp n (br_u I 109 3 (I 35 3)) L) Q) :
    br_r d 184 0 [some (.ref 109), some (.ref 35)] [] (br_hp n I L) Q := br_run_blk br_stops_184a 400 ⟨rfl, ⟨rfl, H⟩⟩
theorem rb_Marks_copya_8 {d n : Nat} {Q : br_Q} {I : Nat → Nat → Int32} {L : Nat → Nat → Int64} 
    (H : br_r d 184 23 [some (.ref 109), some (.ref 35)] [] (br_hp n (br_cp I 36 110 0 0 40) L) Q) :
    br_r d 184 8 [some (.ref 109), some (.ref 35)] [] (br_hp n I L) Q := br_run_blk br_stops_184a 400 ⟨rfl, ⟨rfl, ⟨(Nat.le_of_ble_eq_true rfl), (Nat.le_of_ble_eq_true rfl), (of_decide_eq_true rfl), (of_decide_eq_true rfl), (of_decide_eq_true rfl), (Nat.le_of_ble_eq_true rfl), (Nat.le_of_ble_eq_true rfl), (Nat.le_of_ble_eq_true rfl), Or.inl ⟨Or.inl ⟨rfl, rfl⟩, H⟩⟩⟩⟩
theorem rb_Marks_copya_23 {d n : Nat} {Q : br_Q} {I : Nat → Nat → Int32} {L : Nat → Nat → Int64} 
    (H : br_r d 184 38 [some (.ref 109), some (.ref 35)] [] (br_hp n (br_cp I 37 111 0 0 40) L) Q) :
    br_r d 184 23 [some (.ref 109), some (.ref 35)] [] (br_hp n I L) Q := br_run_blk br_stops_184a 400 ⟨rfl, ⟨rfl, ⟨(Nat.le_of_ble_eq_true rfl), (Nat.le_of_ble_eq_true rfl), (of_decide_eq_true rfl), (of_decide_eq_true rfl), (of_decide_eq_true rfl), (Nat.le_of_ble_eq_true rfl), (Nat.le_of_ble_eq_true rfl), (Nat.le_of_ble_eq_true rfl), Or.inl ⟨Or.inl ⟨rfl, rfl⟩, H⟩⟩⟩⟩
theorem rb_Marks_copya_38 {d n : Nat} {Q : br_Q} {I : Nat → Nat → Int32} {L : Nat → Nat → Int64} 
    (H : br_r d 184 53 [some (.ref 109), some (.ref 35)] [] (br_hp n (br_cp I 38 112 0 0 40) L) Q) :
    br_r d 184 38 [some (.ref 109), some (.ref 35)] [] (br_hp n I L) Q := br_run_blk br_stops_184a 400 ⟨rfl, ⟨rfl, ⟨(Nat.le_of_ble_eq_true rfl), (Nat.le_of_ble_eq_true rfl), (of_decide_eq_true rfl), (of_decide_eq_true rfl), (of_decide_eq_true rfl), (Nat.le_of_ble_eq_true rfl), (Nat.le_of_ble_eq_true rfl), (Nat.le_of_ble_eq_true rfl), Or.inl ⟨Or.inl ⟨rfl, rfl⟩, H⟩⟩⟩⟩
theorem rb_Marks_copya_53 {d n : Nat} {Q : br_Q} {I : Nat → Nat → Int32} {L : Nat → Nat → Int64} {z0 : Option Value} {z1 : Option Value}
    (H : Q none (br_hp n I L)) :
    br_r d 184 53 [z0, z1] [] (br_hp n I L) Q := br_run_blk br_stops_184a 400 ⟨rfl, H⟩
def br_stops_185a : List Nat := [0, 8, 23, 38, 53, 68]
theorem rb_Trials_copya_0 {d n : Nat} {Q : br_Q} {I : Nat → Nat → Int32} {L : Nat → Nat → Int64} 
    (H : br_r d 185 8 [some (.ref 113), some (.ref 39)] [] (br_hp n (br_u I 113 4 (I 39 4)) L) Q) :
    br_r d 185 0 [some (.ref 113), some (.ref 39)] [] (br_hp n I L) Q := br_run_blk br_stops_185a 400 ⟨rfl, ⟨rfl, H⟩⟩
theorem rb_Trials_copya_8 {d n : Nat} {Q : br_Q} {I : Nat → Nat → Int32} {L : Nat → Nat → Int64} 
    (H : br_r d 185 23 [some (.ref 113), some (.ref 39)] [] (br_hp n (br_cp I 40 114 0 0 20) L) Q) :
    br_r d 185 8 [some (.ref 113), some (.ref 39)] [] (br_hp n I L) Q := br_run_blk br_stops_185a 400 ⟨rfl, ⟨rfl, ⟨(Nat.le_of_ble_eq_true rfl), (Nat.le_of_ble_eq_true rfl), (of_decide_eq_true rfl), (of_decide_eq_true rfl), (of_decide_eq_true rfl), (Nat.le_of_ble_eq_true rfl), (Nat.le_of_ble_eq_true rfl), (Nat.le_of_ble_eq_true rfl), Or.inl ⟨Or.inl ⟨rfl, rfl⟩, H⟩⟩⟩⟩
theorem rb_Trials_copya_23 {d n : Nat} {Q : br_Q} {I : Nat → Nat → Int32} {L : Nat → Nat → Int64} 
    (H : br_r d 185 38 [some (.ref 113), some (.ref 39)] [] (br_hp n (br_cp I 41 115 0 0 20) L) Q) :
    br_r d 185 23 [some (.ref 113), some (.ref 39)] [] (br_hp n I L) Q := br_run_blk br_stops_185a 400 ⟨rfl, ⟨rfl, ⟨(Nat.le_of_ble_eq_true rfl), (Nat.le_of_ble_eq_true rfl), (of_decide_eq_true rfl), (of_decide_eq_true rfl), (of_decide_eq_true rfl), (Nat.le_of_ble_eq_true rfl), (Nat.le_of_ble_eq_true rfl), (Nat.le_of_ble_eq_true rfl), Or.inl ⟨Or.inl ⟨rfl, rfl⟩, H⟩⟩⟩⟩
theorem rb_Trials_copya_38 {d n : Nat} {Q : br_Q} {I : Nat → Nat → Int32} {L : Nat → Nat → Int64} 
    (H : br_r d 185 53 [some (.ref 113), some (.ref 39)] [] (br_hp n (br_cp I 42 116 0 0 20) L) Q) :
    br_r d 185 38 [some (.ref 113), some (.ref 39)] [] (br_hp n I L) Q := br_run_blk br_stops_185a 400 ⟨rfl, ⟨rfl, ⟨(Nat.le_of_ble_eq_true rfl), (Nat.le_of_ble_eq_true rfl), (of_decide_eq_true rfl), (of_decide_eq_true rfl), (of_decide_eq_true rfl), (Nat.le_of_ble_eq_true rfl), (Nat.le_of_ble_eq_true rfl), (Nat.le_of_ble_eq_true rfl), Or.inl ⟨Or.inl ⟨rfl, rfl⟩, H⟩⟩⟩⟩
theorem rb_Trials_copya_53 {d n : Nat} {Q : br_Q} {I : Nat → Nat → Int32} {L : Nat → Nat → Int64} 
    (H : br_r d 185 68 [some (.ref 113), some (.ref 39)] [] (br_hp n (br_cp I 43 117 0 0 20) L) Q) :
    br_r d 185 53 [some (.ref 113), some (.ref 39)] [] (br_hp n I L) Q := br_run_blk br_stops_185a 400 ⟨rfl, ⟨rfl, ⟨(Nat.le_of_ble_eq_true rfl), (Nat.le_of_ble_eq_true rfl), (of_decide_eq_true rfl), (of_decide_eq_true rfl), (of_decide_eq_true rfl), (Nat.le_of_ble_eq_true rfl), (Nat.le_of_ble_eq_true rfl), (Nat.le_of_ble_eq_true rfl), Or.inl ⟨Or.inr ⟨rfl, rfl⟩, H⟩⟩⟩⟩
theorem rb_Trials_copya_68 {d n : Nat} {Q : br_Q} {I : Nat → Nat → Int32} {L : Nat → Nat → Int64} {z0 : Option Value} {z1 : Option Value}
    (H : Q none (br_hp n I L)) :
    br_r d 185 68 [z0, z1] [] (br_hp n I L) Q := br_run_blk br_stops_185a 400 ⟨rfl, H⟩
def br_stops_182b : List Nat := [0, 15, 30, 38, 53, 68, 83, 98, 113, 121, 129, 131, 156, 185, 187, 207, 236, 247, 258, 269]
theorem rb_World_copyb_0 {d n : Nat} {Q : br_Q} {I : Nat → Nat → Int32} {L : Nat → Nat → Int64} {z2 : Option Value}
    (H : br_r (d + 1) 182 15 [some (.ref 126), some (.ref 9), z2] [] (br_hp n (br_cp I 10 127 0 0 18) L) Q) :
    br_r (d + 1) 182 0 [some (.ref 126), some (.ref 9), z2] [] (br_hp n I L) Q := br_run_blk br_stops_182b 400 ⟨rfl, ⟨rfl, ⟨(Nat.le_of_ble_eq_true rfl), (Nat.le_of_ble_eq_true rfl), (of_decide_eq_true rfl), (of_decide_eq_true rfl), (of_decide_eq_true rfl), (Nat.le_of_ble_eq_true rfl), (Nat.le_of_ble_eq_true rfl), (Nat.le_of_ble_eq_true rfl), Or.inl ⟨Or.inl ⟨rfl, rfl⟩, H⟩⟩⟩⟩
theorem rb_World_copyb_15 {d n : Nat} {Q : br_Q} {I : Nat → Nat → Int32} {L : Nat → Nat → Int64} {z2 : Option Value}
    (H : br_r (d + 1) 182 30 [some (.ref 126), some (.ref 9), z2] [] (br_hp n (br_cp I 11 128 0 0 18) L) Q) :
    br_r (d + 1) 182 15 [some (.ref 126), some (.ref 9), z2] [] (br_hp n I L) Q := br_run_blk br_stops_182b 400 ⟨rfl, ⟨rfl, ⟨(Nat.le_of_ble_eq_true rfl), (Nat.le_of_ble_eq_true rfl), (of_decide_eq_true rfl), (of_decide_eq_true rfl), (of_decide_eq_true rfl), (Nat.le_of_ble_eq_true rfl), (Nat.le_of_ble_eq_true rfl), (Nat.le_of_ble_eq_true rfl), Or.inl ⟨Or.inr ⟨rfl, rfl⟩, H⟩⟩⟩⟩
theorem rb_World_copyb_30 {d n : Nat} {Q : br_Q} {I : Nat → Nat → Int32} {L : Nat → Nat → Int64} {z2 : Option Value}
    (H : br_r (d + 1) 182 38 [some (.ref 126), some (.ref 9), z2] [] (br_hp n (br_u I 126 2 (I 9 2)) L) Q) :
    br_r (d + 1) 182 30 [some (.ref 126), some (.ref 9), z2] [] (br_hp n I L) Q := br_run_blk br_stops_182b 400 ⟨rfl, ⟨rfl, H⟩⟩
theorem rb_World_copyb_38 {d n : Nat} {Q : br_Q} {I : Nat → Nat → Int32} {L : Nat → Nat → Int64} {z2 : Option Value}
    (H : br_r (d + 1) 182 53 [some (.ref 126), some (.ref 9), z2] [] (br_hp n (br_cp I 12 129 0 0 40) L) Q) :
    br_r (d + 1) 182 38 [some (.ref 126), some (.ref 9), z2] [] (br_hp n I L) Q := br_run_blk br_stops_182b 400 ⟨rfl, ⟨rfl, ⟨(Nat.le_of_ble_eq_true rfl), (Nat.le_of_ble_eq_true rfl), (of_decide_eq_true rfl), (of_decide_eq_true rfl), (of_decide_eq_true rfl), (Nat.le_of_ble_eq_true rfl), (Nat.le_of_ble_eq_true rfl), (Nat.le_of_ble_eq_true rfl), Or.inl ⟨Or.inl ⟨rfl, rfl⟩, H⟩⟩⟩⟩
theorem rb_World_copyb_53 {d n : Nat} {Q : br_Q} {I : Nat → Nat → Int32} {L : Nat → Nat → Int64} {z2 : Option Value}
    (H : br_r (d + 1) 182 68 [some (.ref 126), some (.ref 9), z2] [] (br_hp n (br_cp I 13 130 0 0 40) L) Q) :
    br_r (d + 1) 182 53 [some (.ref 126), some (.ref 9), z2] [] (br_hp n I L) Q := br_run_blk br_stops_182b 400 ⟨rfl, ⟨rfl, ⟨(Nat.le_of_ble_eq_true rfl), (Nat.le_of_ble_eq_true rfl), (of_decide_eq_true rfl), (of_decide_eq_true rfl), (of_decide_eq_true rfl), (Nat.le_of_ble_eq_true rfl), (Nat.le_of_ble_eq_true rfl), (Nat.le_of_ble_eq_true rfl), Or.inl ⟨Or.inl ⟨rfl, rfl⟩, H⟩⟩⟩⟩
theorem rb_World_copyb_68 {d n : Nat} {Q : br_Q} {I : Nat → Nat → Int32} {L : Nat → Nat → Int64} {z2 : Option Value}
    (H : br_r (d + 1) 182 83 [some (.ref 126), some (.ref 9), z2] [] (br_hp n (br_cp I 14 131 0 0 40) L) Q) :
    br_r (d + 1) 182 68 [some (.ref 126), some (.ref 9), z2] [] (br_hp n I L) Q := br_run_blk br_stops_182b 400 ⟨rfl, ⟨rfl, ⟨(Nat.le_of_ble_eq_true rfl), (Nat.le_of_ble_eq_true rfl), (of_decide_eq_true rfl), (of_decide_eq_true rfl), (of_decide_eq_true rfl), (Nat.le_of_ble_eq_true rfl), (Nat.le_of_ble_eq_true rfl), (Nat.le_of_ble_eq_true rfl), Or.inl ⟨Or.inl ⟨rfl, rfl⟩, H⟩⟩⟩⟩
theorem rb_World_copyb_83 {d n : Nat} {Q : br_Q} {I : Nat → Nat → Int32} {L : Nat → Nat → Int64} {z2 : Option Value}
    (H : br_r (d + 1) 182 98 [some (.ref 126), some (.ref 9), z2] [] (br_hp n (br_cp I 15 132 0 0 40) L) Q) :
    br_r (d + 1) 182 83 [some (.ref 126), some (.ref 9), z2] [] (br_hp n I L) Q := br_run_blk br_stops_182b 400 ⟨rfl, ⟨rfl, ⟨(Nat.le_of_ble_eq_true rfl), (Nat.le_of_ble_eq_true rfl), (of_decide_eq_true rfl), (of_decide_eq_true rfl), (of_decide_eq_true rfl), (Nat.le_of_ble_eq_true rfl), (Nat.le_of_ble_eq_true rfl), (Nat.le_of_ble_eq_true rfl), Or.inl ⟨Or.inl ⟨rfl, rfl⟩, H⟩⟩⟩⟩
theorem rb_World_copyb_98 {d n : Nat} {Q : br_Q} {I : Nat → Nat → Int32} {L : Nat → Nat → Int64} {z2 : Option Value}
    (H : br_r (d + 1) 182 113 [some (.ref 126), some (.ref 9), z2] [] (br_hp n (br_cp I 16 133 0 0 40) L) Q) :
    br_r (d + 1) 182 98 [some (.ref 126), some (.ref 9), z2] [] (br_hp n I L) Q := br_run_blk br_stops_182b 400 ⟨rfl, ⟨rfl, ⟨(Nat.le_of_ble_eq_true rfl), (Nat.le_of_ble_eq_true rfl), (of_decide_eq_true rfl), (of_decide_eq_true rfl), (of_decide_eq_true rfl), (Nat.le_of_ble_eq_true rfl), (Nat.le_of_ble_eq_true rfl), (Nat.le_of_ble_eq_true rfl), Or.inl ⟨Or.inr ⟨rfl, rfl⟩, H⟩⟩⟩⟩
theorem rb_World_copyb_113 {d n : Nat} {Q : br_Q} {I : Nat → Nat → Int32} {L : Nat → Nat → Int64} {z2 : Option Value}
    (H : br_r (d + 1) 182 121 [some (.ref 126), some (.ref 9), z2] [] (br_hp n (br_u I 126 8 (I 9 8)) L) Q) :
    br_r (d + 1) 182 113 [some (.ref 126), some (.ref 9), z2] [] (br_hp n I L) Q := br_run_blk br_stops_182b 400 ⟨rfl, ⟨rfl, H⟩⟩
theorem rb_World_copyb_121 {d n : Nat} {Q : br_Q} {I : Nat → Nat → Int32} {L : Nat → Nat → Int64} {z2 : Option Value}
    (H : br_r (d + 1) 182 129 [some (.ref 126), some (.ref 9), z2] [] (br_hp n (br_u I 126 9 (I 9 9)) L) Q) :
    br_r (d + 1) 182 121 [some (.ref 126), some (.ref 9), z2] [] (br_hp n I L) Q := br_run_blk br_stops_182b 400 ⟨rfl, ⟨rfl, H⟩⟩
theorem rb_World_copyb_129 {d n : Nat} {Q : br_Q} {I : Nat → Nat → Int32} {L : Nat → Nat → Int64} {z2 : Option Value}
    (H : br_r (d + 1) 182 131 [some (.ref 126), some (.ref 9), some (.int (nI 0))] [] (br_hp n I L) Q) :
    br_r (d + 1) 182 129 [some (.ref 126), some (.ref 9), z2] [] (br_hp n I L) Q := br_run_blk br_stops_182b 400 H
theorem rb_World_copyb_131 {d n : Nat} {Q : br_Q} {I : Nat → Nat → Int32} {L : Nat → Nat → Int64} {x2 : Int32}
    (H : (((nI 6) ≤ x2) → (br_r d 76 0 [some (.ref 142), some (.ref 25)] [] (br_hp n I L) (fun v h => br_r (d + 1) 182 185 [some (.ref 126), some (.ref 9), some (.int x2)] (v.toList ++ []) (br_bk h) Q))) ∧ ((¬ ((nI 6) ≤ x2)) → ((vp_in x2 6) ∧ ((vp_in x2 6) ∧ ((8 ≤ br_R0 17 x2.toNatClampNeg) ∧ (8 ≤ br_R0 134 x2.toNatClampNeg) ∧ (0 + 40 ≤ (br_S0 n (br_R0 17 x2.toNatClampNeg)).2) ∧ (0 + 40 ≤ (br_S0 n (br_R0 134 x2.toNatClampNeg)).2) ∧ (((br_S0 n (br_R0 17 x2.toNatClampNeg)).1 = 1 ∧ (br_S0 n (br_R0 134 x2.toNatClampNeg)).1 = 1) ∧ (br_r (d + 1) 182 156 [some (.ref 126), some (.ref 9), some (.int x2)] [] (br_hp n (br_cp I (br_R0 17 x2.toNatClampNeg) (br_R0 134 x2.toNatClampNeg) 0 0 40) L) Q))))))) :
    br_r (d + 1) 182 131 [some (.ref 126), some (.ref 9), some (.int x2)] [] (br_hp n I L) Q := br_run_blk br_stops_182b 400 ⟨fun z1 => ⟨rfl, ⟨rfl, ⟨rfl, (H.1 z1)⟩⟩⟩, fun z1 => ⟨rfl, ⟨rfl, (H.2 z1).1, ⟨rfl, ⟨rfl, (H.2 z1).2.1, ⟨(H.2 z1).2.2.1, (H.2 z1).2.2.2.1, (of_decide_eq_true rfl), (of_decide_eq_true rfl), (of_decide_eq_true rfl), (H.2 z1).2.2.2.2.1, (H.2 z1).2.2.2.2.2.1, (Nat.le_of_ble_eq_true rfl), Or.inl ⟨Or.inl (H.2 z1).2.2.2.2.2.2.1, (H.2 z1).2.2.2.2.2.2.2⟩⟩⟩⟩⟩⟩⟩
theorem rb_World_copyb_156 {d n : Nat} {Q : br_Q} {I : Nat → Nat → Int32} {L : Nat → Nat → Int64} {x2 : Int32}
    (H : (vp_in x2 6) ∧ ((vp_in x2 6) ∧ (br_r (d + 1) 182 131 [some (.ref 126), some (.ref 9), some (.int (x2 + (nI 1)))] [] (br_hp n (br_u I 141 x2.toNatClampNeg (I 24 x2.toNatClampNeg)) L) Q))) :
    br_r (d + 1) 182 156 [some (.ref 126), some (.ref 9), some (.int x2)] [] (br_hp n I L) Q := br_run_blk br_stops_182b 400 ⟨rfl, ⟨rfl, ⟨rfl, H.1, ⟨rfl, (Nat.le_of_ble_eq_true rfl), H.2.1, H.2.2⟩⟩⟩⟩
theorem rb_World_copyb_185 {d n : Nat} {Q : br_Q} {I : Nat → Nat → Int32} {L : Nat → Nat → Int64} {z2 : Option Value}
    (H : br_r (d + 1) 182 187 [some (.ref 126), some (.ref 9), some (.int (nI 0))] [] (br_hp n I L) Q) :
    br_r (d + 1) 182 185 [some (.ref 126), some (.ref 9), z2] [] (br_hp n I L) Q := br_run_blk br_stops_182b 400 H
theorem rb_World_copyb_187 {d n : Nat} {Q : br_Q} {I : Nat → Nat → Int32} {L : Nat → Nat → Int64} {x2 : Int32}
    (H : (((nI 4) ≤ x2) → (br_r d 77 0 [some (.ref 146), some (.ref 29)] [] (br_hp n I L) (fun v h => br_r (d + 1) 182 236 [some (.ref 126), some (.ref 9), some (.int x2)] (v.toList ++ []) (br_bk h) Q))) ∧ ((¬ ((nI 4) ≤ x2)) → ((vp_in x2 4) ∧ ((vp_in x2 4) ∧ ((br_S0 n (br_R0 144 x2.toNatClampNeg) = (0, 2)) ∧ (br_r d 76 0 [some (.ref (br_R0 144 x2.toNatClampNeg)), some (.ref (br_R0 27 x2.toNatClampNeg))] [] (br_hp n I L) (fun v h => br_r (d + 1) 182 207 [some (.ref 126), some (.ref 9), some (.int x2)] (v.toList ++ []) (br_bk h) Q))))))) :
    br_r (d + 1) 182 187 [some (.ref 126), some (.ref 9), some (.int x2)] [] (br_hp n I L) Q := br_run_blk br_stops_182b 400 ⟨fun z2 => ⟨rfl, ⟨rfl, ⟨rfl, (H.1 z2)⟩⟩⟩, fun z2 => ⟨rfl, ⟨rfl, (H.2 z2).1, ⟨rfl, ⟨rfl, (H.2 z2).2.1, ⟨(H.2 z2).2.2.1, (H.2 z2).2.2.2⟩⟩⟩⟩⟩⟩
theorem rb_World_copyb_207 {d n : Nat} {Q : br_Q} {I : Nat → Nat → Int32} {L : Nat → Nat → Int64} {x2 : Int32}
    (H : (vp_in x2 4) ∧ ((vp_in x2 4) ∧ (br_r (d + 1) 182 187 [some (.ref 126), some (.ref 9), some (.int (x2 + (nI 1)))] [] (br_hp n (br_u I 145 x2.toNatClampNeg (vp_nar .boolean (I 28 x2.toNatClampNeg))) L) Q))) :
    br_r (d + 1) 182 207 [some (.ref 126), some (.ref 9), some (.int x2)] [] (br_hp n I L) Q := br_run_blk br_stops_182b 400 ⟨rfl, ⟨rfl, ⟨Or.inl rfl, H.1, ⟨(Nat.le_of_ble_eq_true rfl), H.2.1, Or.inl ⟨rfl, H.2.2⟩⟩⟩⟩⟩
theorem rb_World_copyb_236 {d n : Nat} {Q : br_Q} {I : Nat → Nat → Int32} {L : Nat → Nat → Int64} {z2 : Option Value}
    (H : br_r d 183 0 [some (.ref 148), some (.ref 31)] [] (br_hp n I L) (fun v h => br_r (d + 1) 182 247 [some (.ref 126), some (.ref 9), z2] (v.toList ++ []) (br_bk h) Q)) :
    br_r (d + 1) 182 236 [some (.ref 126), some (.ref 9), z2] [] (br_hp n I L) Q := br_run_blk br_stops_182b 400 ⟨rfl, ⟨rfl, ⟨rfl, H⟩⟩⟩
theorem rb_World_copyb_247 {d n : Nat} {Q : br_Q} {I : Nat → Nat → Int32} {L : Nat → Nat → Int64} {z2 : Option Value}
    (H : br_r d 184 0 [some (.ref 152), some (.ref 35)] [] (br_hp n I L) (fun v h => br_r (d + 1) 182 258 [some (.ref 126), some (.ref 9), z2] (v.toList ++ []) (br_bk h) Q)) :
    br_r (d + 1) 182 247 [some (.ref 126), some (.ref 9), z2] [] (br_hp n I L) Q := br_run_blk br_stops_182b 400 ⟨rfl, ⟨rfl, ⟨rfl, H⟩⟩⟩
theorem rb_World_copyb_258 {d n : Nat} {Q : br_Q} {I : Nat → Nat → Int32} {L : Nat → Nat → Int64} {z2 : Option Value}
    (H : br_r d 185 0 [some (.ref 156), some (.ref 39)] [] (br_hp n I L) (fun v h => br_r (d + 1) 182 269 [some (.ref 126), some (.ref 9), z2] (v.toList ++ []) (br_bk h) Q)) :
    br_r (d + 1) 182 258 [some (.ref 126), some (.ref 9), z2] [] (br_hp n I L) Q := br_run_blk br_stops_182b 400 ⟨rfl, ⟨rfl, ⟨rfl, H⟩⟩⟩
theorem rb_World_copyb_269 {d n : Nat} {Q : br_Q} {I : Nat → Nat → Int32} {L : Nat → Nat → Int64} {z0 : Option Value} {z1 : Option Value} {z2 : Option Value}
    (H : Q none (br_hp n I L)) :
    br_r (d + 1) 182 269 [z0, z1, z2] [] (br_hp n I L) Q := br_run_blk br_stops_182b 400 ⟨rfl, H⟩
def br_stops_183b : List Nat := [0, 8, 23, 38, 53]
theorem rb_Films_copyb_0 {d n : Nat} {Q : br_Q} {I : Nat → Nat → Int32} {L : Nat → Nat → Int64} 
    (H : br_r d 183 8 [some (.ref 148), some (.ref 31)] [] (br_hp n (br_u I 148 3 (I 31 3)) L) Q) :
    br_r d 183 0 [some (.ref 148), some (.ref 31)] [] (br_hp n I L) Q := br_run_blk br_stops_183b 400 ⟨rfl, ⟨rfl, H⟩⟩
theorem rb_Films_copyb_8 {d n : Nat} {Q : br_Q} {I : Nat → Nat → Int32} {L : Nat → Nat → Int64} 
    (H : br_r d 183 23 [some (.ref 148), some (.ref 31)] [] (br_hp n (br_cp I 32 149 0 0 24) L) Q) :
    br_r d 183 8 [some (.ref 148), some (.ref 31)] [] (br_hp n I L) Q := br_run_blk br_stops_183b 400 ⟨rfl, ⟨rfl, ⟨(Nat.le_of_ble_eq_true rfl), (Nat.le_of_ble_eq_true rfl), (of_decide_eq_true rfl), (of_decide_eq_true rfl), (of_decide_eq_true rfl), (Nat.le_of_ble_eq_true rfl), (Nat.le_of_ble_eq_true rfl), (Nat.le_of_ble_eq_true rfl), Or.inl ⟨Or.inl ⟨rfl, rfl⟩, H⟩⟩⟩⟩
theorem rb_Films_copyb_23 {d n : Nat} {Q : br_Q} {I : Nat → Nat → Int32} {L : Nat → Nat → Int64} 
    (H : br_r d 183 38 [some (.ref 148), some (.ref 31)] [] (br_hp n (br_cp I 33 150 0 0 24) L) Q) :
    br_r d 183 23 [some (.ref 148), some (.ref 31)] [] (br_hp n I L) Q := br_run_blk br_stops_183b 400 ⟨rfl, ⟨rfl, ⟨(Nat.le_of_ble_eq_true rfl), (Nat.le_of_ble_eq_true rfl), (of_decide_eq_true rfl), (of_decide_eq_true rfl), (of_decide_eq_true rfl), (Nat.le_of_ble_eq_true rfl), (Nat.le_of_ble_eq_true rfl), (Nat.le_of_ble_eq_true rfl), Or.inl ⟨Or.inr ⟨rfl, rfl⟩, H⟩⟩⟩⟩
theorem rb_Films_copyb_38 {d n : Nat} {Q : br_Q} {I : Nat → Nat → Int32} {L : Nat → Nat → Int64} 
    (H : br_r d 183 53 [some (.ref 148), some (.ref 31)] [] (br_hp n (br_cp I 34 151 0 0 24) L) Q) :
    br_r d 183 38 [some (.ref 148), some (.ref 31)] [] (br_hp n I L) Q := br_run_blk br_stops_183b 400 ⟨rfl, ⟨rfl, ⟨(Nat.le_of_ble_eq_true rfl), (Nat.le_of_ble_eq_true rfl), (of_decide_eq_true rfl), (of_decide_eq_true rfl), (of_decide_eq_true rfl), (Nat.le_of_ble_eq_true rfl), (Nat.le_of_ble_eq_true rfl), (Nat.le_of_ble_eq_true rfl), Or.inl ⟨Or.inl ⟨rfl, rfl⟩, H⟩⟩⟩⟩
theorem rb_Films_copyb_53 {d n : Nat} {Q : br_Q} {I : Nat → Nat → Int32} {L : Nat → Nat → Int64} {z0 : Option Value} {z1 : Option Value}
    (H : Q none (br_hp n I L)) :
    br_r d 183 53 [z0, z1] [] (br_hp n I L) Q := br_run_blk br_stops_183b 400 ⟨rfl, H⟩
def br_stops_184b : List Nat := [0, 8, 23, 38, 53]
theorem rb_Marks_copyb_0 {d n : Nat} {Q : br_Q} {I : Nat → Nat → Int32} {L : Nat → Nat → Int64} 
    (H : br_r d 184 8 [some (.ref 152), some (.ref 35)] [] (br_hp n (br_u I 152 3 (I 35 3)) L) Q) :
    br_r d 184 0 [some (.ref 152), some (.ref 35)] [] (br_hp n I L) Q := br_run_blk br_stops_184b 400 ⟨rfl, ⟨rfl, H⟩⟩
theorem rb_Marks_copyb_8 {d n : Nat} {Q : br_Q} {I : Nat → Nat → Int32} {L : Nat → Nat → Int64} 
    (H : br_r d 184 23 [some (.ref 152), some (.ref 35)] [] (br_hp n (br_cp I 36 153 0 0 40) L) Q) :
    br_r d 184 8 [some (.ref 152), some (.ref 35)] [] (br_hp n I L) Q := br_run_blk br_stops_184b 400 ⟨rfl, ⟨rfl, ⟨(Nat.le_of_ble_eq_true rfl), (Nat.le_of_ble_eq_true rfl), (of_decide_eq_true rfl), (of_decide_eq_true rfl), (of_decide_eq_true rfl), (Nat.le_of_ble_eq_true rfl), (Nat.le_of_ble_eq_true rfl), (Nat.le_of_ble_eq_true rfl), Or.inl ⟨Or.inl ⟨rfl, rfl⟩, H⟩⟩⟩⟩
theorem rb_Marks_copyb_23 {d n : Nat} {Q : br_Q} {I : Nat → Nat → Int32} {L : Nat → Nat → Int64} 
    (H : br_r d 184 38 [some (.ref 152), some (.ref 35)] [] (br_hp n (br_cp I 37 154 0 0 40) L) Q) :
    br_r d 184 23 [some (.ref 152), some (.ref 35)] [] (br_hp n I L) Q := br_run_blk br_stops_184b 400 ⟨rfl, ⟨rfl, ⟨(Nat.le_of_ble_eq_true rfl), (Nat.le_of_ble_eq_true rfl), (of_decide_eq_true rfl), (of_decide_eq_true rfl), (of_decide_eq_true rfl), (Nat.le_of_ble_eq_true rfl), (Nat.le_of_ble_eq_true rfl), (Nat.le_of_ble_eq_true rfl), Or.inl ⟨Or.inl ⟨rfl, rfl⟩, H⟩⟩⟩⟩
theorem rb_Marks_copyb_38 {d n : Nat} {Q : br_Q} {I : Nat → Nat → Int32} {L : Nat → Nat → Int64} 
    (H : br_r d 184 53 [some (.ref 152), some (.ref 35)] [] (br_hp n (br_cp I 38 155 0 0 40) L) Q) :
    br_r d 184 38 [some (.ref 152), some (.ref 35)] [] (br_hp n I L) Q := br_run_blk br_stops_184b 400 ⟨rfl, ⟨rfl, ⟨(Nat.le_of_ble_eq_true rfl), (Nat.le_of_ble_eq_true rfl), (of_decide_eq_true rfl), (of_decide_eq_true rfl), (of_decide_eq_true rfl), (Nat.le_of_ble_eq_true rfl), (Nat.le_of_ble_eq_true rfl), (Nat.le_of_ble_eq_true rfl), Or.inl ⟨Or.inl ⟨rfl, rfl⟩, H⟩⟩⟩⟩
theorem rb_Marks_copyb_53 {d n : Nat} {Q : br_Q} {I : Nat → Nat → Int32} {L : Nat → Nat → Int64} {z0 : Option Value} {z1 : Option Value}
    (H : Q none (br_hp n I L)) :
    br_r d 184 53 [z0, z1] [] (br_hp n I L) Q := br_run_blk br_stops_184b 400 ⟨rfl, H⟩
def br_stops_185b : List Nat := [0, 8, 23, 38, 53, 68]
theorem rb_Trials_copyb_0 {d n : Nat} {Q : br_Q} {I : Nat → Nat → Int32} {L : Nat → Nat → Int64} 
    (H : br_r d 185 8 [some (.ref 156), some (.ref 39)] [] (br_hp n (br_u I 156 4 (I 39 4)) L) Q) :
    br_r d 185 0 [some (.ref 156), some (.ref 39)] [] (br_hp n I L) Q := br_run_blk br_stops_185b 400 ⟨rfl, ⟨rfl, H⟩⟩
theorem rb_Trials_copyb_8 {d n : Nat} {Q : br_Q} {I : Nat → Nat → Int32} {L : Nat → Nat → Int64} 
    (H : br_r d 185 23 [some (.ref 156), some (.ref 39)] [] (br_hp n (br_cp I 40 157 0 0 20) L) Q) :
    br_r d 185 8 [some (.ref 156), some (.ref 39)] [] (br_hp n I L) Q := br_run_blk br_stops_185b 400 ⟨rfl, ⟨rfl, ⟨(Nat.le_of_ble_eq_true rfl), (Nat.le_of_ble_eq_true rfl), (of_decide_eq_true rfl), (of_decide_eq_true rfl), (of_decide_eq_true rfl), (Nat.le_of_ble_eq_true rfl), (Nat.le_of_ble_eq_true rfl), (Nat.le_of_ble_eq_true rfl), Or.inl ⟨Or.inl ⟨rfl, rfl⟩, H⟩⟩⟩⟩
theorem rb_Trials_copyb_23 {d n : Nat} {Q : br_Q} {I : Nat → Nat → Int32} {L : Nat → Nat → Int64} 
    (H : br_r d 185 38 [some (.ref 156), some (.ref 39)] [] (br_hp n (br_cp I 41 158 0 0 20) L) Q) :
    br_r d 185 23 [some (.ref 156), some (.ref 39)] [] (br_hp n I L) Q := br_run_blk br_stops_185b 400 ⟨rfl, ⟨rfl, ⟨(Nat.le_of_ble_eq_true rfl), (Nat.le_of_ble_eq_true rfl), (of_decide_eq_true rfl), (of_decide_eq_true rfl), (of_decide_eq_true rfl), (Nat.le_of_ble_eq_true rfl), (Nat.le_of_ble_eq_true rfl), (Nat.le_of_ble_eq_true rfl), Or.inl ⟨Or.inl ⟨rfl, rfl⟩, H⟩⟩⟩⟩
theorem rb_Trials_copyb_38 {d n : Nat} {Q : br_Q} {I : Nat → Nat → Int32} {L : Nat → Nat → Int64} 
    (H : br_r d 185 53 [some (.ref 156), some (.ref 39)] [] (br_hp n (br_cp I 42 159 0 0 20) L) Q) :
    br_r d 185 38 [some (.ref 156), some (.ref 39)] [] (br_hp n I L) Q := br_run_blk br_stops_185b 400 ⟨rfl, ⟨rfl, ⟨(Nat.le_of_ble_eq_true rfl), (Nat.le_of_ble_eq_true rfl), (of_decide_eq_true rfl), (of_decide_eq_true rfl), (of_decide_eq_true rfl), (Nat.le_of_ble_eq_true rfl), (Nat.le_of_ble_eq_true rfl), (Nat.le_of_ble_eq_true rfl), Or.inl ⟨Or.inl ⟨rfl, rfl⟩, H⟩⟩⟩⟩
theorem rb_Trials_copyb_53 {d n : Nat} {Q : br_Q} {I : Nat → Nat → Int32} {L : Nat → Nat → Int64} 
    (H : br_r d 185 68 [some (.ref 156), some (.ref 39)] [] (br_hp n (br_cp I 43 160 0 0 20) L) Q) :
    br_r d 185 53 [some (.ref 156), some (.ref 39)] [] (br_hp n I L) Q := br_run_blk br_stops_185b 400 ⟨rfl, ⟨rfl, ⟨(Nat.le_of_ble_eq_true rfl), (Nat.le_of_ble_eq_true rfl), (of_decide_eq_true rfl), (of_decide_eq_true rfl), (of_decide_eq_true rfl), (Nat.le_of_ble_eq_true rfl), (Nat.le_of_ble_eq_true rfl), (Nat.le_of_ble_eq_true rfl), Or.inl ⟨Or.inr ⟨rfl, rfl⟩, H⟩⟩⟩⟩
theorem rb_Trials_copyb_68 {d n : Nat} {Q : br_Q} {I : Nat → Nat → Int32} {L : Nat → Nat → Int64} {z0 : Option Value} {z1 : Option Value}
    (H : Q none (br_hp n I L)) :
    br_r d 185 68 [z0, z1] [] (br_hp n I L) Q := br_run_blk br_stops_185b 400 ⟨rfl, H⟩
def br_stops_182c : List Nat := [0, 15, 30, 38, 53, 68, 83, 98, 113, 121, 129, 131, 156, 185, 187, 207, 236, 247, 258, 269]
theorem rb_World_copyc_0 {d n : Nat} {Q : br_Q} {I : Nat → Nat → Int32} {L : Nat → Nat → Int64} {z2 : Option Value}
    (H : br_r (d + 1) 182 15 [some (.ref 9), some (.ref 83), z2] [] (br_hp n (br_cp I 84 10 0 0 18) L) Q) :
    br_r (d + 1) 182 0 [some (.ref 9), some (.ref 83), z2] [] (br_hp n I L) Q := br_run_blk br_stops_182c 400 ⟨rfl, ⟨rfl, ⟨(Nat.le_of_ble_eq_true rfl), (Nat.le_of_ble_eq_true rfl), (of_decide_eq_true rfl), (of_decide_eq_true rfl), (of_decide_eq_true rfl), (Nat.le_of_ble_eq_true rfl), (Nat.le_of_ble_eq_true rfl), (Nat.le_of_ble_eq_true rfl), Or.inl ⟨Or.inl ⟨rfl, rfl⟩, H⟩⟩⟩⟩
theorem rb_World_copyc_15 {d n : Nat} {Q : br_Q} {I : Nat → Nat → Int32} {L : Nat → Nat → Int64} {z2 : Option Value}
    (H : br_r (d + 1) 182 30 [some (.ref 9), some (.ref 83), z2] [] (br_hp n (br_cp I 85 11 0 0 18) L) Q) :
    br_r (d + 1) 182 15 [some (.ref 9), some (.ref 83), z2] [] (br_hp n I L) Q := br_run_blk br_stops_182c 400 ⟨rfl, ⟨rfl, ⟨(Nat.le_of_ble_eq_true rfl), (Nat.le_of_ble_eq_true rfl), (of_decide_eq_true rfl), (of_decide_eq_true rfl), (of_decide_eq_true rfl), (Nat.le_of_ble_eq_true rfl), (Nat.le_of_ble_eq_true rfl), (Nat.le_of_ble_eq_true rfl), Or.inl ⟨Or.inr ⟨rfl, rfl⟩, H⟩⟩⟩⟩
theorem rb_World_copyc_30 {d n : Nat} {Q : br_Q} {I : Nat → Nat → Int32} {L : Nat → Nat → Int64} {z2 : Option Value}
    (H : br_r (d + 1) 182 38 [some (.ref 9), some (.ref 83), z2] [] (br_hp n (br_u I 9 2 (I 83 2)) L) Q) :
    br_r (d + 1) 182 30 [some (.ref 9), some (.ref 83), z2] [] (br_hp n I L) Q := br_run_blk br_stops_182c 400 ⟨rfl, ⟨rfl, H⟩⟩
theorem rb_World_copyc_38 {d n : Nat} {Q : br_Q} {I : Nat → Nat → Int32} {L : Nat → Nat → Int64} {z2 : Option Value}
    (H : br_r (d + 1) 182 53 [some (.ref 9), some (.ref 83), z2] [] (br_hp n (br_cp I 86 12 0 0 40) L) Q) :
    br_r (d + 1) 182 38 [some (.ref 9), some (.ref 83), z2] [] (br_hp n I L) Q := br_run_blk br_stops_182c 400 ⟨rfl, ⟨rfl, ⟨(Nat.le_of_ble_eq_true rfl), (Nat.le_of_ble_eq_true rfl), (of_decide_eq_true rfl), (of_decide_eq_true rfl), (of_decide_eq_true rfl), (Nat.le_of_ble_eq_true rfl), (Nat.le_of_ble_eq_true rfl), (Nat.le_of_ble_eq_true rfl), Or.inl ⟨Or.inl ⟨rfl, rfl⟩, H⟩⟩⟩⟩
theorem rb_World_copyc_53 {d n : Nat} {Q : br_Q} {I : Nat → Nat → Int32} {L : Nat → Nat → Int64} {z2 : Option Value}
    (H : br_r (d + 1) 182 68 [some (.ref 9), some (.ref 83), z2] [] (br_hp n (br_cp I 87 13 0 0 40) L) Q) :
    br_r (d + 1) 182 53 [some (.ref 9), some (.ref 83), z2] [] (br_hp n I L) Q := br_run_blk br_stops_182c 400 ⟨rfl, ⟨rfl, ⟨(Nat.le_of_ble_eq_true rfl), (Nat.le_of_ble_eq_true rfl), (of_decide_eq_true rfl), (of_decide_eq_true rfl), (of_decide_eq_true rfl), (Nat.le_of_ble_eq_true rfl), (Nat.le_of_ble_eq_true rfl), (Nat.le_of_ble_eq_true rfl), Or.inl ⟨Or.inl ⟨rfl, rfl⟩, H⟩⟩⟩⟩
theorem rb_World_copyc_68 {d n : Nat} {Q : br_Q} {I : Nat → Nat → Int32} {L : Nat → Nat → Int64} {z2 : Option Value}
    (H : br_r (d + 1) 182 83 [some (.ref 9), some (.ref 83), z2] [] (br_hp n (br_cp I 88 14 0 0 40) L) Q) :
    br_r (d + 1) 182 68 [some (.ref 9), some (.ref 83), z2] [] (br_hp n I L) Q := br_run_blk br_stops_182c 400 ⟨rfl, ⟨rfl, ⟨(Nat.le_of_ble_eq_true rfl), (Nat.le_of_ble_eq_true rfl), (of_decide_eq_true rfl), (of_decide_eq_true rfl), (of_decide_eq_true rfl), (Nat.le_of_ble_eq_true rfl), (Nat.le_of_ble_eq_true rfl), (Nat.le_of_ble_eq_true rfl), Or.inl ⟨Or.inl ⟨rfl, rfl⟩, H⟩⟩⟩⟩
theorem rb_World_copyc_83 {d n : Nat} {Q : br_Q} {I : Nat → Nat → Int32} {L : Nat → Nat → Int64} {z2 : Option Value}
    (H : br_r (d + 1) 182 98 [some (.ref 9), some (.ref 83), z2] [] (br_hp n (br_cp I 89 15 0 0 40) L) Q) :
    br_r (d + 1) 182 83 [some (.ref 9), some (.ref 83), z2] [] (br_hp n I L) Q := br_run_blk br_stops_182c 400 ⟨rfl, ⟨rfl, ⟨(Nat.le_of_ble_eq_true rfl), (Nat.le_of_ble_eq_true rfl), (of_decide_eq_true rfl), (of_decide_eq_true rfl), (of_decide_eq_true rfl), (Nat.le_of_ble_eq_true rfl), (Nat.le_of_ble_eq_true rfl), (Nat.le_of_ble_eq_true rfl), Or.inl ⟨Or.inl ⟨rfl, rfl⟩, H⟩⟩⟩⟩
theorem rb_World_copyc_98 {d n : Nat} {Q : br_Q} {I : Nat → Nat → Int32} {L : Nat → Nat → Int64} {z2 : Option Value}
    (H : br_r (d + 1) 182 113 [some (.ref 9), some (.ref 83), z2] [] (br_hp n (br_cp I 90 16 0 0 40) L) Q) :
    br_r (d + 1) 182 98 [some (.ref 9), some (.ref 83), z2] [] (br_hp n I L) Q := br_run_blk br_stops_182c 400 ⟨rfl, ⟨rfl, ⟨(Nat.le_of_ble_eq_true rfl), (Nat.le_of_ble_eq_true rfl), (of_decide_eq_true rfl), (of_decide_eq_true rfl), (of_decide_eq_true rfl), (Nat.le_of_ble_eq_true rfl), (Nat.le_of_ble_eq_true rfl), (Nat.le_of_ble_eq_true rfl), Or.inl ⟨Or.inr ⟨rfl, rfl⟩, H⟩⟩⟩⟩
theorem rb_World_copyc_113 {d n : Nat} {Q : br_Q} {I : Nat → Nat → Int32} {L : Nat → Nat → Int64} {z2 : Option Value}
    (H : br_r (d + 1) 182 121 [some (.ref 9), some (.ref 83), z2] [] (br_hp n (br_u I 9 8 (I 83 8)) L) Q) :
    br_r (d + 1) 182 113 [some (.ref 9), some (.ref 83), z2] [] (br_hp n I L) Q := br_run_blk br_stops_182c 400 ⟨rfl, ⟨rfl, H⟩⟩
theorem rb_World_copyc_121 {d n : Nat} {Q : br_Q} {I : Nat → Nat → Int32} {L : Nat → Nat → Int64} {z2 : Option Value}
    (H : br_r (d + 1) 182 129 [some (.ref 9), some (.ref 83), z2] [] (br_hp n (br_u I 9 9 (I 83 9)) L) Q) :
    br_r (d + 1) 182 121 [some (.ref 9), some (.ref 83), z2] [] (br_hp n I L) Q := br_run_blk br_stops_182c 400 ⟨rfl, ⟨rfl, H⟩⟩
theorem rb_World_copyc_129 {d n : Nat} {Q : br_Q} {I : Nat → Nat → Int32} {L : Nat → Nat → Int64} {z2 : Option Value}
    (H : br_r (d + 1) 182 131 [some (.ref 9), some (.ref 83), some (.int (nI 0))] [] (br_hp n I L) Q) :
    br_r (d + 1) 182 129 [some (.ref 9), some (.ref 83), z2] [] (br_hp n I L) Q := br_run_blk br_stops_182c 400 H
theorem rb_World_copyc_131 {d n : Nat} {Q : br_Q} {I : Nat → Nat → Int32} {L : Nat → Nat → Int64} {x2 : Int32}
    (H : (((nI 6) ≤ x2) → (br_r d 76 0 [some (.ref 25), some (.ref 99)] [] (br_hp n I L) (fun v h => br_r (d + 1) 182 185 [some (.ref 9), some (.ref 83), some (.int x2)] (v.toList ++ []) (br_bk h) Q))) ∧ ((¬ ((nI 6) ≤ x2)) → ((vp_in x2 6) ∧ ((vp_in x2 6) ∧ ((8 ≤ br_R0 91 x2.toNatClampNeg) ∧ (8 ≤ br_R0 17 x2.toNatClampNeg) ∧ (0 + 40 ≤ (br_S0 n (br_R0 91 x2.toNatClampNeg)).2) ∧ (0 + 40 ≤ (br_S0 n (br_R0 17 x2.toNatClampNeg)).2) ∧ (((br_S0 n (br_R0 91 x2.toNatClampNeg)).1 = 1 ∧ (br_S0 n (br_R0 17 x2.toNatClampNeg)).1 = 1) ∧ (br_r (d + 1) 182 156 [some (.ref 9), some (.ref 83), some (.int x2)] [] (br_hp n (br_cp I (br_R0 91 x2.toNatClampNeg) (br_R0 17 x2.toNatClampNeg) 0 0 40) L) Q))))))) :
    br_r (d + 1) 182 131 [some (.ref 9), some (.ref 83), some (.int x2)] [] (br_hp n I L) Q := br_run_blk br_stops_182c 400 ⟨fun z1 => ⟨rfl, ⟨rfl, ⟨rfl, (H.1 z1)⟩⟩⟩, fun z1 => ⟨rfl, ⟨rfl, (H.2 z1).1, ⟨rfl, ⟨rfl, (H.2 z1).2.1, ⟨(H.2 z1).2.2.1, (H.2 z1).2.2.2.1, (of_decide_eq_true rfl), (of_decide_eq_true rfl), (of_decide_eq_true rfl), (H.2 z1).2.2.2.2.1, (H.2 z1).2.2.2.2.2.1, (Nat.le_of_ble_eq_true rfl), Or.inl ⟨Or.inl (H.2 z1).2.2.2.2.2.2.1, (H.2 z1).2.2.2.2.2.2.2⟩⟩⟩⟩⟩⟩⟩
theorem rb_World_copyc_156 {d n : Nat} {Q : br_Q} {I : Nat → Nat → Int32} {L : Nat → Nat → Int64} {x2 : Int32}
    (H : (vp_in x2 6) ∧ ((vp_in x2 6) ∧ (br_r (d + 1) 182 131 [some (.ref 9), some (.ref 83), some (.int (x2 + (nI 1)))] [] (br_hp n (br_u I 24 x2.toNatClampNeg (I 98 x2.toNatClampNeg)) L) Q))) :
    br_r (d + 1) 182 156 [some (.ref 9), some (.ref 83), some (.int x2)] [] (br_hp n I L) Q := br_run_blk br_stops_182c 400 ⟨rfl, ⟨rfl, ⟨rfl, H.1, ⟨rfl, (Nat.le_of_ble_eq_true rfl), H.2.1, H.2.2⟩⟩⟩⟩
theorem rb_World_copyc_185 {d n : Nat} {Q : br_Q} {I : Nat → Nat → Int32} {L : Nat → Nat → Int64} {z2 : Option Value}
    (H : br_r (d + 1) 182 187 [some (.ref 9), some (.ref 83), some (.int (nI 0))] [] (br_hp n I L) Q) :
    br_r (d + 1) 182 185 [some (.ref 9), some (.ref 83), z2] [] (br_hp n I L) Q := br_run_blk br_stops_182c 400 H
theorem rb_World_copyc_187 {d n : Nat} {Q : br_Q} {I : Nat → Nat → Int32} {L : Nat → Nat → Int64} {x2 : Int32}
    (H : (((nI 4) ≤ x2) → (br_r d 77 0 [some (.ref 29), some (.ref 103)] [] (br_hp n I L) (fun v h => br_r (d + 1) 182 236 [some (.ref 9), some (.ref 83), some (.int x2)] (v.toList ++ []) (br_bk h) Q))) ∧ ((¬ ((nI 4) ≤ x2)) → ((vp_in x2 4) ∧ ((vp_in x2 4) ∧ ((br_S0 n (br_R0 27 x2.toNatClampNeg) = (0, 2)) ∧ (br_r d 76 0 [some (.ref (br_R0 27 x2.toNatClampNeg)), some (.ref (br_R0 101 x2.toNatClampNeg))] [] (br_hp n I L) (fun v h => br_r (d + 1) 182 207 [some (.ref 9), some (.ref 83), some (.int x2)] (v.toList ++ []) (br_bk h) Q))))))) :
    br_r (d + 1) 182 187 [some (.ref 9), some (.ref 83), some (.int x2)] [] (br_hp n I L) Q := br_run_blk br_stops_182c 400 ⟨fun z2 => ⟨rfl, ⟨rfl, ⟨rfl, (H.1 z2)⟩⟩⟩, fun z2 => ⟨rfl, ⟨rfl, (H.2 z2).1, ⟨rfl, ⟨rfl, (H.2 z2).2.1, ⟨(H.2 z2).2.2.1, (H.2 z2).2.2.2⟩⟩⟩⟩⟩⟩
theorem rb_World_copyc_207 {d n : Nat} {Q : br_Q} {I : Nat → Nat → Int32} {L : Nat → Nat → Int64} {x2 : Int32}
    (H : (vp_in x2 4) ∧ ((vp_in x2 4) ∧ (br_r (d + 1) 182 187 [some (.ref 9), some (.ref 83), some (.int (x2 + (nI 1)))] [] (br_hp n (br_u I 28 x2.toNatClampNeg (vp_nar .boolean (I 102 x2.toNatClampNeg))) L) Q))) :
    br_r (d + 1) 182 207 [some (.ref 9), some (.ref 83), some (.int x2)] [] (br_hp n I L) Q := br_run_blk br_stops_182c 400 ⟨rfl, ⟨rfl, ⟨Or.inl rfl, H.1, ⟨(Nat.le_of_ble_eq_true rfl), H.2.1, Or.inl ⟨rfl, H.2.2⟩⟩⟩⟩⟩
theorem rb_World_copyc_236 {d n : Nat} {Q : br_Q} {I : Nat → Nat → Int32} {L : Nat → Nat → Int64} {z2 : Option Value}
    (H : br_r d 183 0 [some (.ref 31), some (.ref 105)] [] (br_hp n I L) (fun v h => br_r (d + 1) 182 247 [some (.ref 9), some (.ref 83), z2] (v.toList ++ []) (br_bk h) Q)) :
    br_r (d + 1) 182 236 [some (.ref 9), some (.ref 83), z2] [] (br_hp n I L) Q := br_run_blk br_stops_182c 400 ⟨rfl, ⟨rfl, ⟨rfl, H⟩⟩⟩
theorem rb_World_copyc_247 {d n : Nat} {Q : br_Q} {I : Nat → Nat → Int32} {L : Nat → Nat → Int64} {z2 : Option Value}
    (H : br_r d 184 0 [some (.ref 35), some (.ref 109)] [] (br_hp n I L) (fun v h => br_r (d + 1) 182 258 [some (.ref 9), some (.ref 83), z2] (v.toList ++ []) (br_bk h) Q)) :
    br_r (d + 1) 182 247 [some (.ref 9), some (.ref 83), z2] [] (br_hp n I L) Q := br_run_blk br_stops_182c 400 ⟨rfl, ⟨rfl, ⟨rfl, H⟩⟩⟩
theorem rb_World_copyc_258 {d n : Nat} {Q : br_Q} {I : Nat → Nat → Int32} {L : Nat → Nat → Int64} {z2 : Option Value}
    (H : br_r d 185 0 [some (.ref 39), some (.ref 113)] [] (br_hp n I L) (fun v h => br_r (d + 1) 182 269 [some (.ref 9), some (.ref 83), z2] (v.toList ++ []) (br_bk h) Q)) :
    br_r (d + 1) 182 258 [some (.ref 9), some (.ref 83), z2] [] (br_hp n I L) Q := br_run_blk br_stops_182c 400 ⟨rfl, ⟨rfl, ⟨rfl, H⟩⟩⟩
theorem rb_World_copyc_269 {d n : Nat} {Q : br_Q} {I : Nat → Nat → Int32} {L : Nat → Nat → Int64} {z0 : Option Value} {z1 : Option Value} {z2 : Option Value}
    (H : Q none (br_hp n I L)) :
    br_r (d + 1) 182 269 [z0, z1, z2] [] (br_hp n I L) Q := br_run_blk br_stops_182c 400 ⟨rfl, H⟩
def br_stops_183c : List Nat := [0, 8, 23, 38, 53]
theorem rb_Films_copyc_0 {d n : Nat} {Q : br_Q} {I : Nat → Nat → Int32} {L : Nat → Nat → Int64} 
    (H : br_r d 183 8 [some (.ref 31), some (.ref 105)] [] (br_hp n (br_u I 31 3 (I 105 3)) L) Q) :
    br_r d 183 0 [some (.ref 31), some (.ref 105)] [] (br_hp n I L) Q := br_run_blk br_stops_183c 400 ⟨rfl, ⟨rfl, H⟩⟩
theorem rb_Films_copyc_8 {d n : Nat} {Q : br_Q} {I : Nat → Nat → Int32} {L : Nat → Nat → Int64} 
    (H : br_r d 183 23 [some (.ref 31), some (.ref 105)] [] (br_hp n (br_cp I 106 32 0 0 24) L) Q) :
    br_r d 183 8 [some (.ref 31), some (.ref 105)] [] (br_hp n I L) Q := br_run_blk br_stops_183c 400 ⟨rfl, ⟨rfl, ⟨(Nat.le_of_ble_eq_true rfl), (Nat.le_of_ble_eq_true rfl), (of_decide_eq_true rfl), (of_decide_eq_true rfl), (of_decide_eq_true rfl), (Nat.le_of_ble_eq_true rfl), (Nat.le_of_ble_eq_true rfl), (Nat.le_of_ble_eq_true rfl), Or.inl ⟨Or.inl ⟨rfl, rfl⟩, H⟩⟩⟩⟩
theorem rb_Films_copyc_23 {d n : Nat} {Q : br_Q} {I : Nat → Nat → Int32} {L : Nat → Nat → Int64} 
    (H : br_r d 183 38 [some (.ref 31), some (.ref 105)] [] (br_hp n (br_cp I 107 33 0 0 24) L) Q) :
    br_r d 183 23 [some (.ref 31), some (.ref 105)] [] (br_hp n I L) Q := br_run_blk br_stops_183c 400 ⟨rfl, ⟨rfl, ⟨(Nat.le_of_ble_eq_true rfl), (Nat.le_of_ble_eq_true rfl), (of_decide_eq_true rfl), (of_decide_eq_true rfl), (of_decide_eq_true rfl), (Nat.le_of_ble_eq_true rfl), (Nat.le_of_ble_eq_true rfl), (Nat.le_of_ble_eq_true rfl), Or.inl ⟨Or.inr ⟨rfl, rfl⟩, H⟩⟩⟩⟩
theorem rb_Films_copyc_38 {d n : Nat} {Q : br_Q} {I : Nat → Nat → Int32} {L : Nat → Nat → Int64} 
    (H : br_r d 183 53 [some (.ref 31), some (.ref 105)] [] (br_hp n (br_cp I 108 34 0 0 24) L) Q) :
    br_r d 183 38 [some (.ref 31), some (.ref 105)] [] (br_hp n I L) Q := br_run_blk br_stops_183c 400 ⟨rfl, ⟨rfl, ⟨(Nat.le_of_ble_eq_true rfl), (Nat.le_of_ble_eq_true rfl), (of_decide_eq_true rfl), (of_decide_eq_true rfl), (of_decide_eq_true rfl), (Nat.le_of_ble_eq_true rfl), (Nat.le_of_ble_eq_true rfl), (Nat.le_of_ble_eq_true rfl), Or.inl ⟨Or.inl ⟨rfl, rfl⟩, H⟩⟩⟩⟩
theorem rb_Films_copyc_53 {d n : Nat} {Q : br_Q} {I : Nat → Nat → Int32} {L : Nat → Nat → Int64} {z0 : Option Value} {z1 : Option Value}
    (H : Q none (br_hp n I L)) :
    br_r d 183 53 [z0, z1] [] (br_hp n I L) Q := br_run_blk br_stops_183c 400 ⟨rfl, H⟩
def br_stops_184c : List Nat := [0, 8, 23, 38, 53]
theorem rb_Marks_copyc_0 {d n : Nat} {Q : br_Q} {I : Nat → Nat → Int32} {L : Nat → Nat → Int64} 
    (H : br_r d 184 8 [some (.ref 35), some (.ref 109)] [] (br_hp n (br_u I 35 3 (I 109 3)) L) Q) :
    br_r d 184 0 [some (.ref 35), some (.ref 109)] [] (br_hp n I L) Q := br_run_blk br_stops_184c 400 ⟨rfl, ⟨rfl, H⟩⟩
theorem rb_Marks_copyc_8 {d n : Nat} {Q : br_Q} {I : Nat → Nat → Int32} {L : Nat → Nat → Int64} 
    (H : br_r d 184 23 [some (.ref 35), some (.ref 109)] [] (br_hp n (br_cp I 110 36 0 0 40) L) Q) :
    br_r d 184 8 [some (.ref 35), some (.ref 109)] [] (br_hp n I L) Q := br_run_blk br_stops_184c 400 ⟨rfl, ⟨rfl, ⟨(Nat.le_of_ble_eq_true rfl), (Nat.le_of_ble_eq_true rfl), (of_decide_eq_true rfl), (of_decide_eq_true rfl), (of_decide_eq_true rfl), (Nat.le_of_ble_eq_true rfl), (Nat.le_of_ble_eq_true rfl), (Nat.le_of_ble_eq_true rfl), Or.inl ⟨Or.inl ⟨rfl, rfl⟩, H⟩⟩⟩⟩
theorem rb_Marks_copyc_23 {d n : Nat} {Q : br_Q} {I : Nat → Nat → Int32} {L : Nat → Nat → Int64} 
    (H : br_r d 184 38 [some (.ref 35), some (.ref 109)] [] (br_hp n (br_cp I 111 37 0 0 40) L) Q) :
    br_r d 184 23 [some (.ref 35), some (.ref 109)] [] (br_hp n I L) Q := br_run_blk br_stops_184c 400 ⟨rfl, ⟨rfl, ⟨(Nat.le_of_ble_eq_true rfl), (Nat.le_of_ble_eq_true rfl), (of_decide_eq_true rfl), (of_decide_eq_true rfl), (of_decide_eq_true rfl), (Nat.le_of_ble_eq_true rfl), (Nat.le_of_ble_eq_true rfl), (Nat.le_of_ble_eq_true rfl), Or.inl ⟨Or.inl ⟨rfl, rfl⟩, H⟩⟩⟩⟩
theorem rb_Marks_copyc_38 {d n : Nat} {Q : br_Q} {I : Nat → Nat → Int32} {L : Nat → Nat → Int64} 
    (H : br_r d 184 53 [some (.ref 35), some (.ref 109)] [] (br_hp n (br_cp I 112 38 0 0 40) L) Q) :
    br_r d 184 38 [some (.ref 35), some (.ref 109)] [] (br_hp n I L) Q := br_run_blk br_stops_184c 400 ⟨rfl, ⟨rfl, ⟨(Nat.le_of_ble_eq_true rfl), (Nat.le_of_ble_eq_true rfl), (of_decide_eq_true rfl), (of_decide_eq_true rfl), (of_decide_eq_true rfl), (Nat.le_of_ble_eq_true rfl), (Nat.le_of_ble_eq_true rfl), (Nat.le_of_ble_eq_true rfl), Or.inl ⟨Or.inl ⟨rfl, rfl⟩, H⟩⟩⟩⟩
theorem rb_Marks_copyc_53 {d n : Nat} {Q : br_Q} {I : Nat → Nat → Int32} {L : Nat → Nat → Int64} {z0 : Option Value} {z1 : Option Value}
    (H : Q none (br_hp n I L)) :
    br_r d 184 53 [z0, z1] [] (br_hp n I L) Q := br_run_blk br_stops_184c 400 ⟨rfl, H⟩
def br_stops_185c : List Nat := [0, 8, 23, 38, 53, 68]
theorem rb_Trials_copyc_0 {d n : Nat} {Q : br_Q} {I : Nat → Nat → Int32} {L : Nat → Nat → Int64} 
    (H : br_r d 185 8 [some (.ref 39), some (.ref 113)] [] (br_hp n (br_u I 39 4 (I 113 4)) L) Q) :
    br_r d 185 0 [some (.ref 39), some (.ref 113)] [] (br_hp n I L) Q := br_run_blk br_stops_185c 400 ⟨rfl, ⟨rfl, H⟩⟩
theorem rb_Trials_copyc_8 {d n : Nat} {Q : br_Q} {I : Nat → Nat → Int32} {L : Nat → Nat → Int64} 
    (H : br_r d 185 23 [some (.ref 39), some (.ref 113)] [] (br_hp n (br_cp I 114 40 0 0 20) L) Q) :
    br_r d 185 8 [some (.ref 39), some (.ref 113)] [] (br_hp n I L) Q := br_run_blk br_stops_185c 400 ⟨rfl, ⟨rfl, ⟨(Nat.le_of_ble_eq_true rfl), (Nat.le_of_ble_eq_true rfl), (of_decide_eq_true rfl), (of_decide_eq_true rfl), (of_decide_eq_true rfl), (Nat.le_of_ble_eq_true rfl), (Nat.le_of_ble_eq_true rfl), (Nat.le_of_ble_eq_true rfl), Or.inl ⟨Or.inl ⟨rfl, rfl⟩, H⟩⟩⟩⟩
theorem rb_Trials_copyc_23 {d n : Nat} {Q : br_Q} {I : Nat → Nat → Int32} {L : Nat → Nat → Int64} 
    (H : br_r d 185 38 [some (.ref 39), some (.ref 113)] [] (br_hp n (br_cp I 115 41 0 0 20) L) Q) :
    br_r d 185 23 [some (.ref 39), some (.ref 113)] [] (br_hp n I L) Q := br_run_blk br_stops_185c 400 ⟨rfl, ⟨rfl, ⟨(Nat.le_of_ble_eq_true rfl), (Nat.le_of_ble_eq_true rfl), (of_decide_eq_true rfl), (of_decide_eq_true rfl), (of_decide_eq_true rfl), (Nat.le_of_ble_eq_true rfl), (Nat.le_of_ble_eq_true rfl), (Nat.le_of_ble_eq_true rfl), Or.inl ⟨Or.inl ⟨rfl, rfl⟩, H⟩⟩⟩⟩
theorem rb_Trials_copyc_38 {d n : Nat} {Q : br_Q} {I : Nat → Nat → Int32} {L : Nat → Nat → Int64} 
    (H : br_r d 185 53 [some (.ref 39), some (.ref 113)] [] (br_hp n (br_cp I 116 42 0 0 20) L) Q) :
    br_r d 185 38 [some (.ref 39), some (.ref 113)] [] (br_hp n I L) Q := br_run_blk br_stops_185c 400 ⟨rfl, ⟨rfl, ⟨(Nat.le_of_ble_eq_true rfl), (Nat.le_of_ble_eq_true rfl), (of_decide_eq_true rfl), (of_decide_eq_true rfl), (of_decide_eq_true rfl), (Nat.le_of_ble_eq_true rfl), (Nat.le_of_ble_eq_true rfl), (Nat.le_of_ble_eq_true rfl), Or.inl ⟨Or.inl ⟨rfl, rfl⟩, H⟩⟩⟩⟩
theorem rb_Trials_copyc_53 {d n : Nat} {Q : br_Q} {I : Nat → Nat → Int32} {L : Nat → Nat → Int64} 
    (H : br_r d 185 68 [some (.ref 39), some (.ref 113)] [] (br_hp n (br_cp I 117 43 0 0 20) L) Q) :
    br_r d 185 53 [some (.ref 39), some (.ref 113)] [] (br_hp n I L) Q := br_run_blk br_stops_185c 400 ⟨rfl, ⟨rfl, ⟨(Nat.le_of_ble_eq_true rfl), (Nat.le_of_ble_eq_true rfl), (of_decide_eq_true rfl), (of_decide_eq_true rfl), (of_decide_eq_true rfl), (Nat.le_of_ble_eq_true rfl), (Nat.le_of_ble_eq_true rfl), (Nat.le_of_ble_eq_true rfl), Or.inl ⟨Or.inr ⟨rfl, rfl⟩, H⟩⟩⟩⟩
theorem rb_Trials_copyc_68 {d n : Nat} {Q : br_Q} {I : Nat → Nat → Int32} {L : Nat → Nat → Int64} {z0 : Option Value} {z1 : Option Value}
    (H : Q none (br_hp n I L)) :
    br_r d 185 68 [z0, z1] [] (br_hp n I L) Q := br_run_blk br_stops_185c 400 ⟨rfl, H⟩
def br_stops_182d : List Nat := [0, 15, 30, 38, 53, 68, 83, 98, 113, 121, 129, 131, 156, 185, 187, 207, 236, 247, 258, 269]
theorem rb_World_copyd_0 {d n : Nat} {Q : br_Q} {I : Nat → Nat → Int32} {L : Nat → Nat → Int64} {z2 : Option Value}
    (H : br_r (d + 1) 182 15 [some (.ref 9), some (.ref 126), z2] [] (br_hp n (br_cp I 127 10 0 0 18) L) Q) :
    br_r (d + 1) 182 0 [some (.ref 9), some (.ref 126), z2] [] (br_hp n I L) Q := br_run_blk br_stops_182d 400 ⟨rfl, ⟨rfl, ⟨(Nat.le_of_ble_eq_true rfl), (Nat.le_of_ble_eq_true rfl), (of_decide_eq_true rfl), (of_decide_eq_true rfl), (of_decide_eq_true rfl), (Nat.le_of_ble_eq_true rfl), (Nat.le_of_ble_eq_true rfl), (Nat.le_of_ble_eq_true rfl), Or.inl ⟨Or.inl ⟨rfl, rfl⟩, H⟩⟩⟩⟩
theorem rb_World_copyd_15 {d n : Nat} {Q : br_Q} {I : Nat → Nat → Int32} {L : Nat → Nat → Int64} {z2 : Option Value}
    (H : br_r (d + 1) 182 30 [some (.ref 9), some (.ref 126), z2] [] (br_hp n (br_cp I 128 11 0 0 18) L) Q) :
    br_r (d + 1) 182 15 [some (.ref 9), some (.ref 126), z2] [] (br_hp n I L) Q := br_run_blk br_stops_182d 400 ⟨rfl, ⟨rfl, ⟨(Nat.le_of_ble_eq_true rfl), (Nat.le_of_ble_eq_true rfl), (of_decide_eq_true rfl), (of_decide_eq_true rfl), (of_decide_eq_true rfl), (Nat.le_of_ble_eq_true rfl), (Nat.le_of_ble_eq_true rfl), (Nat.le_of_ble_eq_true rfl), Or.inl ⟨Or.inr ⟨rfl, rfl⟩, H⟩⟩⟩⟩
theorem rb_World_copyd_30 {d n : Nat} {Q : br_Q} {I : Nat → Nat → Int32} {L : Nat → Nat → Int64} {z2 : Option Value}
    (H : br_r (d + 1) 182 38 [some (.ref 9), some (.ref 126), z2] [] (br_hp n (br_u I 9 2 (I 126 2)) L) Q) :
    br_r (d + 1) 182 30 [some (.ref 9), some (.ref 126), z2] [] (br_hp n I L) Q := br_run_blk br_stops_182d 400 ⟨rfl, ⟨rfl, H⟩⟩
theorem rb_World_copyd_38 {d n : Nat} {Q : br_Q} {I : Nat → Nat → Int32} {L : Nat → Nat → Int64} {z2 : Option Value}
    (H : br_r (d + 1) 182 53 [some (.ref 9), some (.ref 126), z2] [] (br_hp n (br_cp I 129 12 0 0 40) L) Q) :
    br_r (d + 1) 182 38 [some (.ref 9), some (.ref 126), z2] [] (br_hp n I L) Q := br_run_blk br_stops_182d 400 ⟨rfl, ⟨rfl, ⟨(Nat.le_of_ble_eq_true rfl), (Nat.le_of_ble_eq_true rfl), (of_decide_eq_true rfl), (of_decide_eq_true rfl), (of_decide_eq_true rfl), (Nat.le_of_ble_eq_true rfl), (Nat.le_of_ble_eq_true rfl), (Nat.le_of_ble_eq_true rfl), Or.inl ⟨Or.inl ⟨rfl, rfl⟩, H⟩⟩⟩⟩
theorem rb_World_copyd_53 {d n : Nat} {Q : br_Q} {I : Nat → Nat → Int32} {L : Nat → Nat → Int64} {z2 : Option Value}
    (H : br_r (d + 1) 182 68 [some (.ref 9), some (.ref 126), z2] [] (br_hp n (br_cp I 130 13 0 0 40) L) Q) :
    br_r (d + 1) 182 53 [some (.ref 9), some (.ref 126), z2] [] (br_hp n I L) Q := br_run_blk br_stops_182d 400 ⟨rfl, ⟨rfl, ⟨(Nat.le_of_ble_eq_true rfl), (Nat.le_of_ble_eq_true rfl), (of_decide_eq_true rfl), (of_decide_eq_true rfl), (of_decide_eq_true rfl), (Nat.le_of_ble_eq_true rfl), (Nat.le_of_ble_eq_true rfl), (Nat.le_of_ble_eq_true rfl), Or.inl ⟨Or.inl ⟨rfl, rfl⟩, H⟩⟩⟩⟩
theorem rb_World_copyd_68 {d n : Nat} {Q : br_Q} {I : Nat → Nat → Int32} {L : Nat → Nat → Int64} {z2 : Option Value}
    (H : br_r (d + 1) 182 83 [some (.ref 9), some (.ref 126), z2] [] (br_hp n (br_cp I 131 14 0 0 40) L) Q) :
    br_r (d + 1) 182 68 [some (.ref 9), some (.ref 126), z2] [] (br_hp n I L) Q := br_run_blk br_stops_182d 400 ⟨rfl, ⟨rfl, ⟨(Nat.le_of_ble_eq_true rfl), (Nat.le_of_ble_eq_true rfl), (of_decide_eq_true rfl), (of_decide_eq_true rfl), (of_decide_eq_true rfl), (Nat.le_of_ble_eq_true rfl), (Nat.le_of_ble_eq_true rfl), (Nat.le_of_ble_eq_true rfl), Or.inl ⟨Or.inl ⟨rfl, rfl⟩, H⟩⟩⟩⟩
theorem rb_World_copyd_83 {d n : Nat} {Q : br_Q} {I : Nat → Nat → Int32} {L : Nat → Nat → Int64} {z2 : Option Value}
    (H : br_r (d + 1) 182 98 [some (.ref 9), some (.ref 126), z2] [] (br_hp n (br_cp I 132 15 0 0 40) L) Q) :
    br_r (d + 1) 182 83 [some (.ref 9), some (.ref 126), z2] [] (br_hp n I L) Q := br_run_blk br_stops_182d 400 ⟨rfl, ⟨rfl, ⟨(Nat.le_of_ble_eq_true rfl), (Nat.le_of_ble_eq_true rfl), (of_decide_eq_true rfl), (of_decide_eq_true rfl), (of_decide_eq_true rfl), (Nat.le_of_ble_eq_true rfl), (Nat.le_of_ble_eq_true rfl), (Nat.le_of_ble_eq_true rfl), Or.inl ⟨Or.inl ⟨rfl, rfl⟩, H⟩⟩⟩⟩
theorem rb_World_copyd_98 {d n : Nat} {Q : br_Q} {I : Nat → Nat → Int32} {L : Nat → Nat → Int64} {z2 : Option Value}
    (H : br_r (d + 1) 182 113 [some (.ref 9), some (.ref 126), z2] [] (br_hp n (br_cp I 133 16 0 0 40) L) Q) :
    br_r (d + 1) 182 98 [some (.ref 9), some (.ref 126), z2] [] (br_hp n I L) Q := br_run_blk br_stops_182d 400 ⟨rfl, ⟨rfl, ⟨(Nat.le_of_ble_eq_true rfl), (Nat.le_of_ble_eq_true rfl), (of_decide_eq_true rfl), (of_decide_eq_true rfl), (of_decide_eq_true rfl), (Nat.le_of_ble_eq_true rfl), (Nat.le_of_ble_eq_true rfl), (Nat.le_of_ble_eq_true rfl), Or.inl ⟨Or.inr ⟨rfl, rfl⟩, H⟩⟩⟩⟩
theorem rb_World_copyd_113 {d n : Nat} {Q : br_Q} {I : Nat → Nat → Int32} {L : Nat → Nat → Int64} {z2 : Option Value}
    (H : br_r (d + 1) 182 121 [some (.ref 9), some (.ref 126), z2] [] (br_hp n (br_u I 9 8 (I 126 8)) L) Q) :
    br_r (d + 1) 182 113 [some (.ref 9), some (.ref 126), z2] [] (br_hp n I L) Q := br_run_blk br_stops_182d 400 ⟨rfl, ⟨rfl, H⟩⟩
theorem rb_World_copyd_121 {d n : Nat} {Q : br_Q} {I : Nat → Nat → Int32} {L : Nat → Nat → Int64} {z2 : Option Value}
    (H : br_r (d + 1) 182 129 [some (.ref 9), some (.ref 126), z2] [] (br_hp n (br_u I 9 9 (I 126 9)) L) Q) :
    br_r (d + 1) 182 121 [some (.ref 9), some (.ref 126), z2] [] (br_hp n I L) Q := br_run_blk br_stops_182d 400 ⟨rfl, ⟨rfl, H⟩⟩
theorem rb_World_copyd_129 {d n : Nat} {Q : br_Q} {I : Nat → Nat → Int32} {L : Nat → Nat → Int64} {z2 : Option Value}
    (H : br_r (d + 1) 182 131 [some (.ref 9), some (.ref 126), some (.int (nI 0))] [] (br_hp n I L) Q) :
    br_r (d + 1) 182 129 [some (.ref 9), some (.ref 126), z2] [] (br_hp n I L) Q := br_run_blk br_stops_182d 400 H
theorem rb_World_copyd_131 {d n : Nat} {Q : br_Q} {I : Nat → Nat → Int32} {L : Nat → Nat → Int64} {x2 : Int32}
    (H : (((nI 6) ≤ x2) → (br_r d 76 0 [some (.ref 25), some (.ref 142)] [] (br_hp n I L) (fun v h => br_r (d + 1) 182 185 [some (.ref 9), some (.ref 126), some (.int x2)] (v.toList ++ []) (br_bk h) Q))) ∧ ((¬ ((nI 6) ≤ x2)) → ((vp_in x2 6) ∧ ((vp_in x2 6) ∧ ((8 ≤ br_R0 134 x2.toNatClampNeg) ∧ (8 ≤ br_R0 17 x2.toNatClampNeg) ∧ (0 + 40 ≤ (br_S0 n (br_R0 134 x2.toNatClampNeg)).2) ∧ (0 + 40 ≤ (br_S0 n (br_R0 17 x2.toNatClampNeg)).2) ∧ (((br_S0 n (br_R0 134 x2.toNatClampNeg)).1 = 1 ∧ (br_S0 n (br_R0 17 x2.toNatClampNeg)).1 = 1) ∧ (br_r (d + 1) 182 156 [some (.ref 9), some (.ref 126), some (.int x2)] [] (br_hp n (br_cp I (br_R0 134 x2.toNatClampNeg) (br_R0 17 x2.toNatClampNeg) 0 0 40) L) Q))))))) :
    br_r (d + 1) 182 131 [some (.ref 9), some (.ref 126), some (.int x2)] [] (br_hp n I L) Q := br_run_blk br_stops_182d 400 ⟨fun z1 => ⟨rfl, ⟨rfl, ⟨rfl, (H.1 z1)⟩⟩⟩, fun z1 => ⟨rfl, ⟨rfl, (H.2 z1).1, ⟨rfl, ⟨rfl, (H.2 z1).2.1, ⟨(H.2 z1).2.2.1, (H.2 z1).2.2.2.1, (of_decide_eq_true rfl), (of_decide_eq_true rfl), (of_decide_eq_true rfl), (H.2 z1).2.2.2.2.1, (H.2 z1).2.2.2.2.2.1, (Nat.le_of_ble_eq_true rfl), Or.inl ⟨Or.inl (H.2 z1).2.2.2.2.2.2.1, (H.2 z1).2.2.2.2.2.2.2⟩⟩⟩⟩⟩⟩⟩
theorem rb_World_copyd_156 {d n : Nat} {Q : br_Q} {I : Nat → Nat → Int32} {L : Nat → Nat → Int64} {x2 : Int32}
    (H : (vp_in x2 6) ∧ ((vp_in x2 6) ∧ (br_r (d + 1) 182 131 [some (.ref 9), some (.ref 126), some (.int (x2 + (nI 1)))] [] (br_hp n (br_u I 24 x2.toNatClampNeg (I 141 x2.toNatClampNeg)) L) Q))) :
    br_r (d + 1) 182 156 [some (.ref 9), some (.ref 126), some (.int x2)] [] (br_hp n I L) Q := br_run_blk br_stops_182d 400 ⟨rfl, ⟨rfl, ⟨rfl, H.1, ⟨rfl, (Nat.le_of_ble_eq_true rfl), H.2.1, H.2.2⟩⟩⟩⟩
theorem rb_World_copyd_185 {d n : Nat} {Q : br_Q} {I : Nat → Nat → Int32} {L : Nat → Nat → Int64} {z2 : Option Value}
    (H : br_r (d + 1) 182 187 [some (.ref 9), some (.ref 126), some (.int (nI 0))] [] (br_hp n I L) Q) :
    br_r (d + 1) 182 185 [some (.ref 9), some (.ref 126), z2] [] (br_hp n I L) Q := br_run_blk br_stops_182d 400 H
theorem rb_World_copyd_187 {d n : Nat} {Q : br_Q} {I : Nat → Nat → Int32} {L : Nat → Nat → Int64} {x2 : Int32}
    (H : (((nI 4) ≤ x2) → (br_r d 77 0 [some (.ref 29), some (.ref 146)] [] (br_hp n I L) (fun v h => br_r (d + 1) 182 236 [some (.ref 9), some (.ref 126), some (.int x2)] (v.toList ++ []) (br_bk h) Q))) ∧ ((¬ ((nI 4) ≤ x2)) → ((vp_in x2 4) ∧ ((vp_in x2 4) ∧ ((br_S0 n (br_R0 27 x2.toNatClampNeg) = (0, 2)) ∧ (br_r d 76 0 [some (.ref (br_R0 27 x2.toNatClampNeg)), some (.ref (br_R0 144 x2.toNatClampNeg))] [] (br_hp n I L) (fun v h => br_r (d + 1) 182 207 [some (.ref 9), some (.ref 126), some (.int x2)] (v.toList ++ []) (br_bk h) Q))))))) :
    br_r (d + 1) 182 187 [some (.ref 9), some (.ref 126), some (.int x2)] [] (br_hp n I L) Q := br_run_blk br_stops_182d 400 ⟨fun z2 => ⟨rfl, ⟨rfl, ⟨rfl, (H.1 z2)⟩⟩⟩, fun z2 => ⟨rfl, ⟨rfl, (H.2 z2).1, ⟨rfl, ⟨rfl, (H.2 z2).2.1, ⟨(H.2 z2).2.2.1, (H.2 z2).2.2.2⟩⟩⟩⟩⟩⟩
theorem rb_World_copyd_207 {d n : Nat} {Q : br_Q} {I : Nat → Nat → Int32} {L : Nat → Nat → Int64} {x2 : Int32}
    (H : (vp_in x2 4) ∧ ((vp_in x2 4) ∧ (br_r (d + 1) 182 187 [some (.ref 9), some (.ref 126), some (.int (x2 + (nI 1)))] [] (br_hp n (br_u I 28 x2.toNatClampNeg (vp_nar .boolean (I 145 x2.toNatClampNeg))) L) Q))) :
    br_r (d + 1) 182 207 [some (.ref 9), some (.ref 126), some (.int x2)] [] (br_hp n I L) Q := br_run_blk br_stops_182d 400 ⟨rfl, ⟨rfl, ⟨Or.inl rfl, H.1, ⟨(Nat.le_of_ble_eq_true rfl), H.2.1, Or.inl ⟨rfl, H.2.2⟩⟩⟩⟩⟩
theorem rb_World_copyd_236 {d n : Nat} {Q : br_Q} {I : Nat → Nat → Int32} {L : Nat → Nat → Int64} {z2 : Option Value}
    (H : br_r d 183 0 [some (.ref 31), some (.ref 148)] [] (br_hp n I L) (fun v h => br_r (d + 1) 182 247 [some (.ref 9), some (.ref 126), z2] (v.toList ++ []) (br_bk h) Q)) :
    br_r (d + 1) 182 236 [some (.ref 9), some (.ref 126), z2] [] (br_hp n I L) Q := br_run_blk br_stops_182d 400 ⟨rfl, ⟨rfl, ⟨rfl, H⟩⟩⟩
theorem rb_World_copyd_247 {d n : Nat} {Q : br_Q} {I : Nat → Nat → Int32} {L : Nat → Nat → Int64} {z2 : Option Value}
    (H : br_r d 184 0 [some (.ref 35), some (.ref 152)] [] (br_hp n I L) (fun v h => br_r (d + 1) 182 258 [some (.ref 9), some (.ref 126), z2] (v.toList ++ []) (br_bk h) Q)) :
    br_r (d + 1) 182 247 [some (.ref 9), some (.ref 126), z2] [] (br_hp n I L) Q := br_run_blk br_stops_182d 400 ⟨rfl, ⟨rfl, ⟨rfl, H⟩⟩⟩
theorem rb_World_copyd_258 {d n : Nat} {Q : br_Q} {I : Nat → Nat → Int32} {L : Nat → Nat → Int64} {z2 : Option Value}
    (H : br_r d 185 0 [some (.ref 39), some (.ref 156)] [] (br_hp n I L) (fun v h => br_r (d + 1) 182 269 [some (.ref 9), some (.ref 126), z2] (v.toList ++ []) (br_bk h) Q)) :
    br_r (d + 1) 182 258 [some (.ref 9), some (.ref 126), z2] [] (br_hp n I L) Q := br_run_blk br_stops_182d 400 ⟨rfl, ⟨rfl, ⟨rfl, H⟩⟩⟩
theorem rb_World_copyd_269 {d n : Nat} {Q : br_Q} {I : Nat → Nat → Int32} {L : Nat → Nat → Int64} {z0 : Option Value} {z1 : Option Value} {z2 : Option Value}
    (H : Q none (br_hp n I L)) :
    br_r (d + 1) 182 269 [z0, z1, z2] [] (br_hp n I L) Q := br_run_blk br_stops_182d 400 ⟨rfl, H⟩
def br_stops_183d : List Nat := [0, 8, 23, 38, 53]
theorem rb_Films_copyd_0 {d n : Nat} {Q : br_Q} {I : Nat → Nat → Int32} {L : Nat → Nat → Int64} 
    (H : br_r d 183 8 [some (.ref 31), some (.ref 148)] [] (br_hp n (br_u I 31 3 (I 148 3)) L) Q) :
    br_r d 183 0 [some (.ref 31), some (.ref 148)] [] (br_hp n I L) Q := br_run_blk br_stops_183d 400 ⟨rfl, ⟨rfl, H⟩⟩
theorem rb_Films_copyd_8 {d n : Nat} {Q : br_Q} {I : Nat → Nat → Int32} {L : Nat → Nat → Int64} 
    (H : br_r d 183 23 [some (.ref 31), some (.ref 148)] [] (br_hp n (br_cp I 149 32 0 0 24) L) Q) :
    br_r d 183 8 [some (.ref 31), some (.ref 148)] [] (br_hp n I L) Q := br_run_blk br_stops_183d 400 ⟨rfl, ⟨rfl, ⟨(Nat.le_of_ble_eq_true rfl), (Nat.le_of_ble_eq_true rfl), (of_decide_eq_true rfl), (of_decide_eq_true rfl), (of_decide_eq_true rfl), (Nat.le_of_ble_eq_true rfl), (Nat.le_of_ble_eq_true rfl), (Nat.le_of_ble_eq_true rfl), Or.inl ⟨Or.inl ⟨rfl, rfl⟩, H⟩⟩⟩⟩
theorem rb_Films_copyd_23 {d n : Nat} {Q : br_Q} {I : Nat → Nat → Int32} {L : Nat → Nat → Int64} 
    (H : br_r d 183 38 [some (.ref 31), some (.ref 148)] [] (br_hp n (br_cp I 150 33 0 0 24) L) Q) :
    br_r d 183 23 [some (.ref 31), some (.ref 148)] [] (br_hp n I L) Q := br_run_blk br_stops_183d 400 ⟨rfl, ⟨rfl, ⟨(Nat.le_of_ble_eq_true rfl), (Nat.le_of_ble_eq_true rfl), (of_decide_eq_true rfl), (of_decide_eq_true rfl), (of_decide_eq_true rfl), (Nat.le_of_ble_eq_true rfl), (Nat.le_of_ble_eq_true rfl), (Nat.le_of_ble_eq_true rfl), Or.inl ⟨Or.inr ⟨rfl, rfl⟩, H⟩⟩⟩⟩
theorem rb_Films_copyd_38 {d n : Nat} {Q : br_Q} {I : Nat → Nat → Int32} {L : Nat → Nat → Int64} 
    (H : br_r d 183 53 [some (.ref 31), some (.ref 148)] [] (br_hp n (br_cp I 151 34 0 0 24) L) Q) :
    br_r d 183 38 [some (.ref 31), some (.ref 148)] [] (br_hp n I L) Q := br_run_blk br_stops_183d 400 ⟨rfl, ⟨rfl, ⟨(Nat.le_of_ble_eq_true rfl), (Nat.le_of_ble_eq_true rfl), (of_decide_eq_true rfl), (of_decide_eq_true rfl), (of_decide_eq_true rfl), (Nat.le_of_ble_eq_true rfl), (Nat.le_of_ble_eq_true rfl), (Nat.le_of_ble_eq_true rfl), Or.inl ⟨Or.inl ⟨rfl, rfl⟩, H⟩⟩⟩⟩
theorem rb_Films_copyd_53 {d n : Nat} {Q : br_Q} {I : Nat → Nat → Int32} {L : Nat → Nat → Int64} {z0 : Option Value} {z1 : Option Value}
    (H : Q none (br_hp n I L)) :
    br_r d 183 53 [z0, z1] [] (br_hp n I L) Q := br_run_blk br_stops_183d 400 ⟨rfl, H⟩
def br_stops_184d : List Nat := [0, 8, 23, 38, 53]
theorem rb_Marks_copyd_0 {d n : Nat} {Q : br_Q} {I : Nat → Nat → Int32} {L : Nat → Nat → Int64} 
    (H : br_r d 184 8 [some (.ref 35), some (.ref 152)] [] (br_hp n (br_u I 35 3 (I 152 3)) L) Q) :
    br_r d 184 0 [some (.ref 35), some (.ref 152)] [] (br_hp n I L) Q := br_run_blk br_stops_184d 400 ⟨rfl, ⟨rfl, H⟩⟩
theorem rb_Marks_copyd_8 {d n : Nat} {Q : br_Q} {I : Nat → Nat → Int32} {L : Nat → Nat → Int64} 
    (H : br_r d 184 23 [some (.ref 35), some (.ref 152)] [] (br_hp n (br_cp I 153 36 0 0 40) L) Q) :
    br_r d 184 8 [some (.ref 35), some (.ref 152)] [] (br_hp n I L) Q := br_run_blk br_stops_184d 400 ⟨rfl, ⟨rfl, ⟨(Nat.le_of_ble_eq_true rfl), (Nat.le_of_ble_eq_true rfl), (of_decide_eq_true rfl), (of_decide_eq_true rfl), (of_decide_eq_true rfl), (Nat.le_of_ble_eq_true rfl), (Nat.le_of_ble_eq_true rfl), (Nat.le_of_ble_eq_true rfl), Or.inl ⟨Or.inl ⟨rfl, rfl⟩, H⟩⟩⟩⟩
theorem rb_Marks_copyd_23 {d n : Nat} {Q : br_Q} {I : Nat → Nat → Int32} {L : Nat → Nat → Int64} 
    (H : br_r d 184 38 [some (.ref 35), some (.ref 152)] [] (br_hp n (br_cp I 154 37 0 0 40) L) Q) :
    br_r d 184 23 [some (.ref 35), some (.ref 152)] [] (br_hp n I L) Q := br_run_blk br_stops_184d 400 ⟨rfl, ⟨rfl, ⟨(Nat.le_of_ble_eq_true rfl), (Nat.le_of_ble_eq_true rfl), (of_decide_eq_true rfl), (of_decide_eq_true rfl), (of_decide_eq_true rfl), (Nat.le_of_ble_eq_true rfl), (Nat.le_of_ble_eq_true rfl), (Nat.le_of_ble_eq_true rfl), Or.inl ⟨Or.inl ⟨rfl, rfl⟩, H⟩⟩⟩⟩
theorem rb_Marks_copyd_38 {d n : Nat} {Q : br_Q} {I : Nat → Nat → Int32} {L : Nat → Nat → Int64} 
    (H : br_r d 184 53 [some (.ref 35), some (.ref 152)] [] (br_hp n (br_cp I 155 38 0 0 40) L) Q) :
    br_r d 184 38 [some (.ref 35), some (.ref 152)] [] (br_hp n I L) Q := br_run_blk br_stops_184d 400 ⟨rfl, ⟨rfl, ⟨(Nat.le_of_ble_eq_true rfl), (Nat.le_of_ble_eq_true rfl), (of_decide_eq_true rfl), (of_decide_eq_true rfl), (of_decide_eq_true rfl), (Nat.le_of_ble_eq_true rfl), (Nat.le_of_ble_eq_true rfl), (Nat.le_of_ble_eq_true rfl), Or.inl ⟨Or.inl ⟨rfl, rfl⟩, H⟩⟩⟩⟩
theorem rb_Marks_copyd_53 {d n : Nat} {Q : br_Q} {I : Nat → Nat → Int32} {L : Nat → Nat → Int64} {z0 : Option Value} {z1 : Option Value}
    (H : Q none (br_hp n I L)) :
    br_r d 184 53 [z0, z1] [] (br_hp n I L) Q := br_run_blk br_stops_184d 400 ⟨rfl, H⟩
def br_stops_185d : List Nat := [0, 8, 23, 38, 53, 68]
theorem rb_Trials_copyd_0 {d n : Nat} {Q : br_Q} {I : Nat → Nat → Int32} {L : Nat → Nat → Int64} 
    (H : br_r d 185 8 [some (.ref 39), some (.ref 156)] [] (br_hp n (br_u I 39 4 (I 156 4)) L) Q) :
    br_r d 185 0 [some (.ref 39), some (.ref 156)] [] (br_hp n I L) Q := br_run_blk br_stops_185d 400 ⟨rfl, ⟨rfl, H⟩⟩
theorem rb_Trials_copyd_8 {d n : Nat} {Q : br_Q} {I : Nat → Nat → Int32} {L : Nat → Nat → Int64} 
    (H : br_r d 185 23 [some (.ref 39), some (.ref 156)] [] (br_hp n (br_cp I 157 40 0 0 20) L) Q) :
    br_r d 185 8 [some (.ref 39), some (.ref 156)] [] (br_hp n I L) Q := br_run_blk br_stops_185d 400 ⟨rfl, ⟨rfl, ⟨(Nat.le_of_ble_eq_true rfl), (Nat.le_of_ble_eq_true rfl), (of_decide_eq_true rfl), (of_decide_eq_true rfl), (of_decide_eq_true rfl), (Nat.le_of_ble_eq_true rfl), (Nat.le_of_ble_eq_true rfl), (Nat.le_of_ble_eq_true rfl), Or.inl ⟨Or.inl ⟨rfl, rfl⟩, H⟩⟩⟩⟩
theorem rb_Trials_copyd_23 {d n : Nat} {Q : br_Q} {I : Nat → Nat → Int32} {L : Nat → Nat → Int64} 
    (H : br_r d 185 38 [some (.ref 39), some (.ref 156)] [] (br_hp n (br_cp I 158 41 0 0 20) L) Q) :
    br_r d 185 23 [some (.ref 39), some (.ref 156)] [] (br_hp n I L) Q := br_run_blk br_stops_185d 400 ⟨rfl, ⟨rfl, ⟨(Nat.le_of_ble_eq_true rfl), (Nat.le_of_ble_eq_true rfl), (of_decide_eq_true rfl), (of_decide_eq_true rfl), (of_decide_eq_true rfl), (Nat.le_of_ble_eq_true rfl), (Nat.le_of_ble_eq_true rfl), (Nat.le_of_ble_eq_true rfl), Or.inl ⟨Or.inl ⟨rfl, rfl⟩, H⟩⟩⟩⟩
theorem rb_Trials_copyd_38 {d n : Nat} {Q : br_Q} {I : Nat → Nat → Int32} {L : Nat → Nat → Int64} 
    (H : br_r d 185 53 [some (.ref 39), some (.ref 156)] [] (br_hp n (br_cp I 159 42 0 0 20) L) Q) :
    br_r d 185 38 [some (.ref 39), some (.ref 156)] [] (br_hp n I L) Q := br_run_blk br_stops_185d 400 ⟨rfl, ⟨rfl, ⟨(Nat.le_of_ble_eq_true rfl), (Nat.le_of_ble_eq_true rfl), (of_decide_eq_true rfl), (of_decide_eq_true rfl), (of_decide_eq_true rfl), (Nat.le_of_ble_eq_true rfl), (Nat.le_of_ble_eq_true rfl), (Nat.le_of_ble_eq_true rfl), Or.inl ⟨Or.inl ⟨rfl, rfl⟩, H⟩⟩⟩⟩
theorem rb_Trials_copyd_53 {d n : Nat} {Q : br_Q} {I : Nat → Nat → Int32} {L : Nat → Nat → Int64} 
    (H : br_r d 185 68 [some (.ref 39), some (.ref 156)] [] (br_hp n (br_cp I 160 43 0 0 20) L) Q) :
    br_r d 185 53 [some (.ref 39), some (.ref 156)] [] (br_hp n I L) Q := br_run_blk br_stops_185d 400 ⟨rfl, ⟨rfl, ⟨(Nat.le_of_ble_eq_true rfl), (Nat.le_of_ble_eq_true rfl), (of_decide_eq_true rfl), (of_decide_eq_true rfl), (of_decide_eq_true rfl), (Nat.le_of_ble_eq_true rfl), (Nat.le_of_ble_eq_true rfl), (Nat.le_of_ble_eq_true rfl), Or.inl ⟨Or.inr ⟨rfl, rfl⟩, H⟩⟩⟩⟩
theorem rb_Trials_copyd_68 {d n : Nat} {Q : br_Q} {I : Nat → Nat → Int32} {L : Nat → Nat → Int64} {z0 : Option Value} {z1 : Option Value}
    (H : Q none (br_hp n I L)) :
    br_r d 185 68 [z0, z1] [] (br_hp n I L) Q := br_run_blk br_stops_185d 400 ⟨rfl, H⟩
