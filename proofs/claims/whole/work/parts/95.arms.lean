set_option maxRecDepth 100000
set_option maxHeartbeats 4000000
theorem bl_room {d n i : Nat} {xs : Nat → Int32} {Q : br_Q} {I : Nat → Nat → Int32} {L : Nat → Nat → Int64} (hI : br_Inv xs I L) (hi : i + 6 ≤ n) (hn : n ≤ 3072) (hN : ∀ I2 L2, br_Inv xs I2 L2 → br_r (d + 81) 300 18 [some (.ref 1), some (.ref 8), some (.ref 169), some (.int (nI (i + 6)))] [] (br_hp n I2 L2) Q) :
    br_r (d + 81) 300 224 [some (.ref 1), some (.ref 8), some (.ref 169), some (.int (nI i))] [] (br_hp n I L) Q := by
  have eS : (br_S0 n 1).2 = n := rfl
  have fin : ∀ v I2 L2, br_Inv xs I2 L2 → br_r (d + 81) 300 268 [some (.ref 1), some (.ref 8), some (.ref 169), some (.int (nI i))] [.int v, .int v] (br_hp n I2 L2) Q := fun v I2 L2 h => rb_law_268 (br_t rfl (rb_law_1787 (by rw [nI_add]; exact hN I2 L2 h)))
  by_cases hb2 : I 1 (i + 2) = nI 0
  · have hA := bp_room (n := n) hI (I 1 (i + 1)) (nI 0) (Or.inl rfl)
    refine rb_law_224 ?_
    rw [eS]
    simp (disch := omega) only [nI_add, nI_clamp]
    repeat (first | refine ⟨vp_in_nI (by omega) (by omega), ?_⟩ | refine br_t hb2 ?_)
    refine hA _ _ (fun v I1 L1 h1 hM => rb_law_246 ?_)
    rw [eS]
    simp (disch := omega) only [nI_add, nI_clamp, h1]
    repeat (first | refine ⟨vp_in_nI (by omega) (by omega), ?_⟩ | refine br_t hb2 ?_)
    exact hM _ _ (fun I2 L2 hV => fin v I2 L2 hV)
  · have hA := bp_room (n := n) hI (I 1 (i + 1)) (nI 1) (Or.inr rfl)
    refine rb_law_224 ?_
    rw [eS]
    simp (disch := omega) only [nI_add, nI_clamp]
    repeat (first | refine ⟨vp_in_nI (by omega) (by omega), ?_⟩ | refine br_f hb2 ?_)
    refine hA _ _ (fun v I1 L1 h1 hM => rb_law_246 ?_)
    rw [eS]
    simp (disch := omega) only [nI_add, nI_clamp, h1]
    repeat (first | refine ⟨vp_in_nI (by omega) (by omega), ?_⟩ | refine br_f hb2 ?_)
    exact hM _ _ (fun I2 L2 hV => fin v I2 L2 hV)
theorem bl_child {d n i : Nat} {xs : Nat → Int32} {Q : br_Q} {I : Nat → Nat → Int32} {L : Nat → Nat → Int64} (hI : br_Inv xs I L) (hi : i + 6 ≤ n) (hn : n ≤ 3072) (hN : ∀ I2 L2, br_Inv xs I2 L2 → br_r (d + 81) 300 18 [some (.ref 1), some (.ref 8), some (.ref 169), some (.int (nI (i + 6)))] [] (br_hp n I2 L2) Q) :
    br_r (d + 81) 300 273 [some (.ref 1), some (.ref 8), some (.ref 169), some (.int (nI i))] [] (br_hp n I L) Q := by
  have eS : (br_S0 n 1).2 = n := rfl
  have fin : ∀ v I2 L2, br_Inv xs I2 L2 → br_r (d + 81) 300 311 [some (.ref 1), some (.ref 8), some (.ref 169), some (.int (nI i))] [.int v, .int v] (br_hp n I2 L2) Q := fun v I2 L2 h => rb_law_311 (br_t rfl (rb_law_1787 (by rw [nI_add]; exact hN I2 L2 h)))
  have hA := bp_child (n := n) hI (I 1 (i + 1)) (I 1 (i + 2)) (I 1 (i + 3))
  refine rb_law_273 ?_
  rw [eS]
  simp (disch := omega) only [nI_add, nI_clamp]
  repeat (first | refine ⟨vp_in_nI (by omega) (by omega), ?_⟩)
  refine hA _ _ (fun v I1 L1 h1 hM => rb_law_292 ?_)
  rw [eS]
  simp (disch := omega) only [nI_add, nI_clamp, h1]
  repeat (first | refine ⟨vp_in_nI (by omega) (by omega), ?_⟩)
  exact hM _ _ (fun I2 L2 hV => fin v I2 L2 hV)
theorem bl_word {d n i : Nat} {xs : Nat → Int32} {Q : br_Q} {I : Nat → Nat → Int32} {L : Nat → Nat → Int64} (hI : br_Inv xs I L) (hi : i + 6 ≤ n) (hn : n ≤ 3072) (hN : ∀ I2 L2, br_Inv xs I2 L2 → br_r (d + 81) 300 18 [some (.ref 1), some (.ref 8), some (.ref 169), some (.int (nI (i + 6)))] [] (br_hp n I2 L2) Q) :
    br_r (d + 81) 300 316 [some (.ref 1), some (.ref 8), some (.ref 169), some (.int (nI i))] [] (br_hp n I L) Q := by
  have eS : (br_S0 n 1).2 = n := rfl
  have fin : ∀ v I2 L2, br_Inv xs I2 L2 → br_r (d + 81) 300 344 [some (.ref 1), some (.ref 8), some (.ref 169), some (.int (nI i))] [.int v, .int v] (br_hp n I2 L2) Q := fun v I2 L2 h => rb_law_344 (br_t rfl (rb_law_1787 (by rw [nI_add]; exact hN I2 L2 h)))
  have hA := bp_word (n := n) hI (I 1 (i + 1)) (I 1 (i + 2))
  refine rb_law_316 ?_
  rw [eS]
  simp (disch := omega) only [nI_add, nI_clamp]
  repeat (first | refine ⟨vp_in_nI (by omega) (by omega), ?_⟩)
  refine hA _ _ (fun v I1 L1 h1 hM => rb_law_330 ?_)
  rw [eS]
  simp (disch := omega) only [nI_add, nI_clamp, h1]
  repeat (first | refine ⟨vp_in_nI (by omega) (by omega), ?_⟩)
  exact hM _ _ (fun I2 L2 hV => fin v I2 L2 hV)
theorem bl_gone {d n i : Nat} {xs : Nat → Int32} {Q : br_Q} {I : Nat → Nat → Int32} {L : Nat → Nat → Int64} (hI : br_Inv xs I L) (hi : i + 6 ≤ n) (hn : n ≤ 3072) (hN : ∀ I2 L2, br_Inv xs I2 L2 → br_r (d + 81) 300 18 [some (.ref 1), some (.ref 8), some (.ref 169), some (.int (nI (i + 6)))] [] (br_hp n I2 L2) Q) :
    br_r (d + 81) 300 349 [some (.ref 1), some (.ref 8), some (.ref 169), some (.int (nI i))] [] (br_hp n I L) Q := by
  have eS : (br_S0 n 1).2 = n := rfl
  have fin : ∀ v I2 L2, br_Inv xs I2 L2 → br_r (d + 81) 300 367 [some (.ref 1), some (.ref 8), some (.ref 169), some (.int (nI i))] [.int v, .int v] (br_hp n I2 L2) Q := fun v I2 L2 h => rb_law_367 (br_t rfl (rb_law_1787 (by rw [nI_add]; exact hN I2 L2 h)))
  have hA := bp_gone (n := n) hI (I 1 (i + 1))
  refine rb_law_349 ?_
  rw [eS]
  simp (disch := omega) only [nI_add, nI_clamp]
  repeat (first | refine ⟨vp_in_nI (by omega) (by omega), ?_⟩)
  refine hA _ _ (fun v I1 L1 h1 hM => rb_law_358 ?_)
  rw [eS]
  simp (disch := omega) only [nI_add, nI_clamp, h1]
  repeat (first | refine ⟨vp_in_nI (by omega) (by omega), ?_⟩)
  exact hM _ _ (fun I2 L2 hV => fin v I2 L2 hV)
theorem bl_of {d n i : Nat} {xs : Nat → Int32} {Q : br_Q} {I : Nat → Nat → Int32} {L : Nat → Nat → Int64} (hI : br_Inv xs I L) (hi : i + 6 ≤ n) (hn : n ≤ 3072) (hN : ∀ I2 L2, br_Inv xs I2 L2 → br_r (d + 81) 300 18 [some (.ref 1), some (.ref 8), some (.ref 169), some (.int (nI (i + 6)))] [] (br_hp n I2 L2) Q) :
    br_r (d + 81) 300 372 [some (.ref 1), some (.ref 8), some (.ref 169), some (.int (nI i))] [] (br_hp n I L) Q := by
  have eS : (br_S0 n 1).2 = n := rfl
  have fin : ∀ v I2 L2, br_Inv xs I2 L2 → br_r (d + 81) 300 400 [some (.ref 1), some (.ref 8), some (.ref 169), some (.int (nI i))] [.int v, .int v] (br_hp n I2 L2) Q := fun v I2 L2 h => rb_law_400 (br_t rfl (rb_law_1787 (by rw [nI_add]; exact hN I2 L2 h)))
  have hA := bp_of (n := n) hI (I 1 (i + 1)) (I 1 (i + 2))
  refine rb_law_372 ?_
  rw [eS]
  simp (disch := omega) only [nI_add, nI_clamp]
  repeat (first | refine ⟨vp_in_nI (by omega) (by omega), ?_⟩)
  refine hA _ _ (fun v I1 L1 h1 hM => rb_law_386 ?_)
  rw [eS]
  simp (disch := omega) only [nI_add, nI_clamp, h1]
  repeat (first | refine ⟨vp_in_nI (by omega) (by omega), ?_⟩)
  exact hM _ _ (fun I2 L2 hV => fin v I2 L2 hV)
theorem bl_given {d n i : Nat} {xs : Nat → Int32} {Q : br_Q} {I : Nat → Nat → Int32} {L : Nat → Nat → Int64} (hI : br_Inv xs I L) (hi : i + 6 ≤ n) (hn : n ≤ 3072) (hN : ∀ I2 L2, br_Inv xs I2 L2 → br_r (d + 81) 300 18 [some (.ref 1), some (.ref 8), some (.ref 169), some (.int (nI (i + 6)))] [] (br_hp n I2 L2) Q) :
    br_r (d + 81) 300 405 [some (.ref 1), some (.ref 8), some (.ref 169), some (.int (nI i))] [] (br_hp n I L) Q := by
  have eS : (br_S0 n 1).2 = n := rfl
  have fin : ∀ v I2 L2, br_Inv xs I2 L2 → br_r (d + 81) 300 433 [some (.ref 1), some (.ref 8), some (.ref 169), some (.int (nI i))] [.int v, .int v] (br_hp n I2 L2) Q := fun v I2 L2 h => rb_law_433 (br_t rfl (rb_law_1787 (by rw [nI_add]; exact hN I2 L2 h)))
  have hA := bp_given (n := n) hI (I 1 (i + 1)) (I 1 (i + 2))
  refine rb_law_405 ?_
  rw [eS]
  simp (disch := omega) only [nI_add, nI_clamp]
  repeat (first | refine ⟨vp_in_nI (by omega) (by omega), ?_⟩)
  refine hA _ _ (fun v I1 L1 h1 hM => rb_law_419 ?_)
  rw [eS]
  simp (disch := omega) only [nI_add, nI_clamp, h1]
  repeat (first | refine ⟨vp_in_nI (by omega) (by omega), ?_⟩)
  exact hM _ _ (fun I2 L2 hV => fin v I2 L2 hV)
theorem bl_feed {d n i : Nat} {xs : Nat → Int32} {Q : br_Q} {I : Nat → Nat → Int32} {L : Nat → Nat → Int64} (hI : br_Inv xs I L) (hi : i + 6 ≤ n) (hn : n ≤ 3072) (hN : ∀ I2 L2, br_Inv xs I2 L2 → br_r (d + 81) 300 18 [some (.ref 1), some (.ref 8), some (.ref 169), some (.int (nI (i + 6)))] [] (br_hp n I2 L2) Q) :
    br_r (d + 81) 300 438 [some (.ref 1), some (.ref 8), some (.ref 169), some (.int (nI i))] [] (br_hp n I L) Q := by
  have eS : (br_S0 n 1).2 = n := rfl
  have fin : ∀ v I2 L2, br_Inv xs I2 L2 → br_r (d + 81) 300 496 [some (.ref 1), some (.ref 8), some (.ref 169), some (.int (nI i))] [.int v, .int v] (br_hp n I2 L2) Q := fun v I2 L2 h => rb_law_496 (br_t rfl (rb_law_1787 (by rw [nI_add]; exact hN I2 L2 h)))
  have hA := bp_feed (n := n) hI (I 1 (i + 1)) (I 1 (i + 2)) (I 1 (i + 3)) (I 1 (i + 4)) (I 1 (i + 5))
  refine rb_law_438 ?_
  rw [eS]
  simp (disch := omega) only [nI_add, nI_clamp]
  repeat (first | refine ⟨vp_in_nI (by omega) (by omega), ?_⟩)
  refine hA _ _ (fun v I1 L1 h1 hM => rb_law_467 ?_)
  rw [eS]
  simp (disch := omega) only [nI_add, nI_clamp, h1]
  repeat (first | refine ⟨vp_in_nI (by omega) (by omega), ?_⟩)
  exact hM _ _ (fun I2 L2 hV => fin v I2 L2 hV)
theorem bl_text {d n i : Nat} {xs : Nat → Int32} {Q : br_Q} {I : Nat → Nat → Int32} {L : Nat → Nat → Int64} (hI : br_Inv xs I L) (hi : i + 6 ≤ n) (hn : n ≤ 3072) (hN : ∀ I2 L2, br_Inv xs I2 L2 → br_r (d + 81) 300 18 [some (.ref 1), some (.ref 8), some (.ref 169), some (.int (nI (i + 6)))] [] (br_hp n I2 L2) Q) :
    br_r (d + 81) 300 501 [some (.ref 1), some (.ref 8), some (.ref 169), some (.int (nI i))] [] (br_hp n I L) Q := by
  have eS : (br_S0 n 1).2 = n := rfl
  have fin : ∀ v I2 L2, br_Inv xs I2 L2 → br_r (d + 81) 300 529 [some (.ref 1), some (.ref 8), some (.ref 169), some (.int (nI i))] [.int v, .int v] (br_hp n I2 L2) Q := fun v I2 L2 h => rb_law_529 (br_t rfl (rb_law_1787 (by rw [nI_add]; exact hN I2 L2 h)))
  have hA := bp_text (n := n) hI (I 1 (i + 1)) (I 1 (i + 2))
  refine rb_law_501 ?_
  rw [eS]
  simp (disch := omega) only [nI_add, nI_clamp]
  repeat (first | refine ⟨vp_in_nI (by omega) (by omega), ?_⟩)
  refine hA _ _ (fun v I1 L1 h1 hM => rb_law_515 ?_)
  rw [eS]
  simp (disch := omega) only [nI_add, nI_clamp, h1]
  repeat (first | refine ⟨vp_in_nI (by omega) (by omega), ?_⟩)
  exact hM _ _ (fun I2 L2 hV => fin v I2 L2 hV)
theorem bl_fault {d n i : Nat} {xs : Nat → Int32} {Q : br_Q} {I : Nat → Nat → Int32} {L : Nat → Nat → Int64} (hI : br_Inv xs I L) (hi : i + 6 ≤ n) (hn : n ≤ 3072) (hN : ∀ I2 L2, br_Inv xs I2 L2 → br_r (d + 81) 300 18 [some (.ref 1), some (.ref 8), some (.ref 169), some (.int (nI (i + 6)))] [] (br_hp n I2 L2) Q) :
    br_r (d + 81) 300 534 [some (.ref 1), some (.ref 8), some (.ref 169), some (.int (nI i))] [] (br_hp n I L) Q := by
  have eS : (br_S0 n 1).2 = n := rfl
  have fin : ∀ v I2 L2, br_Inv xs I2 L2 → br_r (d + 81) 300 552 [some (.ref 1), some (.ref 8), some (.ref 169), some (.int (nI i))] [.int v, .int v] (br_hp n I2 L2) Q := fun v I2 L2 h => rb_law_552 (br_t rfl (rb_law_1787 (by rw [nI_add]; exact hN I2 L2 h)))
  have hA := bp_fault (n := n) hI (I 1 (i + 1))
  refine rb_law_534 ?_
  rw [eS]
  simp (disch := omega) only [nI_add, nI_clamp]
  repeat (first | refine ⟨vp_in_nI (by omega) (by omega), ?_⟩)
  refine hA _ _ (fun v I1 L1 h1 hM => rb_law_543 ?_)
  rw [eS]
  simp (disch := omega) only [nI_add, nI_clamp, h1]
  repeat (first | refine ⟨vp_in_nI (by omega) (by omega), ?_⟩)
  exact hM _ _ (fun I2 L2 hV => fin v I2 L2 hV)
theorem bl_year {d n i : Nat} {xs : Nat → Int32} {Q : br_Q} {I : Nat → Nat → Int32} {L : Nat → Nat → Int64} (hI : br_Inv xs I L) (hi : i + 6 ≤ n) (hn : n ≤ 3072) (hN : ∀ I2 L2, br_Inv xs I2 L2 → br_r (d + 81) 300 18 [some (.ref 1), some (.ref 8), some (.ref 169), some (.int (nI (i + 6)))] [] (br_hp n I2 L2) Q) :
    br_r (d + 81) 300 557 [some (.ref 1), some (.ref 8), some (.ref 169), some (.int (nI i))] [] (br_hp n I L) Q := by
  have eS : (br_S0 n 1).2 = n := rfl
  have fin : ∀ v I2 L2, br_Inv xs I2 L2 → br_r (d + 81) 300 565 [some (.ref 1), some (.ref 8), some (.ref 169), some (.int (nI i))] [.int v, .int v] (br_hp n I2 L2) Q := fun v I2 L2 h => rb_law_565 (br_t rfl (rb_law_1787 (by rw [nI_add]; exact hN I2 L2 h)))
  have hA := bp_year (n := n) hI 
  refine rb_law_557 ?_
  refine hA _ _ (fun v I1 L1 h1 hM => rb_law_561 ?_)
  exact hM _ _ (fun I2 L2 hV => fin v I2 L2 hV)
theorem bl_give {d n i : Nat} {xs : Nat → Int32} {Q : br_Q} {I : Nat → Nat → Int32} {L : Nat → Nat → Int64} (hI : br_Inv xs I L) (hi : i + 6 ≤ n) (hn : n ≤ 3072) (hN : ∀ I2 L2, br_Inv xs I2 L2 → br_r (d + 81) 300 18 [some (.ref 1), some (.ref 8), some (.ref 169), some (.int (nI (i + 6)))] [] (br_hp n I2 L2) Q) :
    br_r (d + 81) 300 570 [some (.ref 1), some (.ref 8), some (.ref 169), some (.int (nI i))] [] (br_hp n I L) Q := by
  have eS : (br_S0 n 1).2 = n := rfl
  have fin : ∀ v I2 L2, br_Inv xs I2 L2 → br_r (d + 81) 300 624 [some (.ref 1), some (.ref 8), some (.ref 169), some (.int (nI i))] [.int v, .int v] (br_hp n I2 L2) Q := fun v I2 L2 h => rb_law_624 (br_t rfl (rb_law_1787 (by rw [nI_add]; exact hN I2 L2 h)))
  by_cases hb3 : I 1 (i + 3) = nI 0
  · have hA := bp_give (n := n) hI (I 1 (i + 1)) (I 1 (i + 2)) (nI 0) (Or.inl rfl)
    refine rb_law_570 ?_
    rw [eS]
    simp (disch := omega) only [nI_add, nI_clamp]
    repeat (first | refine ⟨vp_in_nI (by omega) (by omega), ?_⟩ | refine br_t hb3 ?_)
    refine hA _ _ (fun v I1 L1 h1 hM => rb_law_597 ?_)
    rw [eS]
    simp (disch := omega) only [nI_add, nI_clamp, h1]
    repeat (first | refine ⟨vp_in_nI (by omega) (by omega), ?_⟩ | refine br_t hb3 ?_)
    exact hM _ _ (fun I2 L2 hV => fin v I2 L2 hV)
  · have hA := bp_give (n := n) hI (I 1 (i + 1)) (I 1 (i + 2)) (nI 1) (Or.inr rfl)
    refine rb_law_570 ?_
    rw [eS]
    simp (disch := omega) only [nI_add, nI_clamp]
    repeat (first | refine ⟨vp_in_nI (by omega) (by omega), ?_⟩ | refine br_f hb3 ?_)
    refine hA _ _ (fun v I1 L1 h1 hM => rb_law_597 ?_)
    rw [eS]
    simp (disch := omega) only [nI_add, nI_clamp, h1]
    repeat (first | refine ⟨vp_in_nI (by omega) (by omega), ?_⟩ | refine br_f hb3 ?_)
    exact hM _ _ (fun I2 L2 hV => fin v I2 L2 hV)
theorem bl_point {d n i : Nat} {xs : Nat → Int32} {Q : br_Q} {I : Nat → Nat → Int32} {L : Nat → Nat → Int64} (hI : br_Inv xs I L) (hi : i + 6 ≤ n) (hn : n ≤ 3072) (hN : ∀ I2 L2, br_Inv xs I2 L2 → br_r (d + 81) 300 18 [some (.ref 1), some (.ref 8), some (.ref 169), some (.int (nI (i + 6)))] [] (br_hp n I2 L2) Q) :
    br_r (d + 81) 300 629 [some (.ref 1), some (.ref 8), some (.ref 169), some (.int (nI i))] [] (br_hp n I L) Q := by
  have eS : (br_S0 n 1).2 = n := rfl
  have fin : ∀ v I2 L2, br_Inv xs I2 L2 → br_r (d + 81) 300 657 [some (.ref 1), some (.ref 8), some (.ref 169), some (.int (nI i))] [.int v, .int v] (br_hp n I2 L2) Q := fun v I2 L2 h => rb_law_657 (br_t rfl (rb_law_1787 (by rw [nI_add]; exact hN I2 L2 h)))
  have hA := bp_point (n := n) hI (I 1 (i + 1)) (I 1 (i + 2))
  refine rb_law_629 ?_
  rw [eS]
  simp (disch := omega) only [nI_add, nI_clamp]
  repeat (first | refine ⟨vp_in_nI (by omega) (by omega), ?_⟩)
  refine hA _ _ (fun v I1 L1 h1 hM => rb_law_643 ?_)
  rw [eS]
  simp (disch := omega) only [nI_add, nI_clamp, h1]
  repeat (first | refine ⟨vp_in_nI (by omega) (by omega), ?_⟩)
  exact hM _ _ (fun I2 L2 hV => fin v I2 L2 hV)
theorem bl_tell {d n i : Nat} {xs : Nat → Int32} {Q : br_Q} {I : Nat → Nat → Int32} {L : Nat → Nat → Int64} (hI : br_Inv xs I L) (hi : i + 6 ≤ n) (hn : n ≤ 3072) (hN : ∀ I2 L2, br_Inv xs I2 L2 → br_r (d + 81) 300 18 [some (.ref 1), some (.ref 8), some (.ref 169), some (.int (nI (i + 6)))] [] (br_hp n I2 L2) Q) :
    br_r (d + 81) 300 662 [some (.ref 1), some (.ref 8), some (.ref 169), some (.int (nI i))] [] (br_hp n I L) Q := by
  have eS : (br_S0 n 1).2 = n := rfl
  have fin : ∀ v I2 L2, br_Inv xs I2 L2 → br_r (d + 81) 300 700 [some (.ref 1), some (.ref 8), some (.ref 169), some (.int (nI i))] [.int v, .int v] (br_hp n I2 L2) Q := fun v I2 L2 h => rb_law_700 (br_t rfl (rb_law_1787 (by rw [nI_add]; exact hN I2 L2 h)))
  have hA := bp_tell (n := n) hI (I 1 (i + 1)) (I 1 (i + 2)) (I 1 (i + 3))
  refine rb_law_662 ?_
  rw [eS]
  simp (disch := omega) only [nI_add, nI_clamp]
  repeat (first | refine ⟨vp_in_nI (by omega) (by omega), ?_⟩)
  refine hA _ _ (fun v I1 L1 h1 hM => rb_law_681 ?_)
  rw [eS]
  simp (disch := omega) only [nI_add, nI_clamp, h1]
  repeat (first | refine ⟨vp_in_nI (by omega) (by omega), ?_⟩)
  exact hM _ _ (fun I2 L2 hV => fin v I2 L2 hV)
theorem bl_deal {d n i : Nat} {xs : Nat → Int32} {Q : br_Q} {I : Nat → Nat → Int32} {L : Nat → Nat → Int64} (hI : br_Inv xs I L) (hi : i + 6 ≤ n) (hn : n ≤ 3072) (hN : ∀ I2 L2, br_Inv xs I2 L2 → br_r (d + 81) 300 18 [some (.ref 1), some (.ref 8), some (.ref 169), some (.int (nI (i + 6)))] [] (br_hp n I2 L2) Q) :
    br_r (d + 81) 300 705 [some (.ref 1), some (.ref 8), some (.ref 169), some (.int (nI i))] [] (br_hp n I L) Q := by
  have eS : (br_S0 n 1).2 = n := rfl
  have fin : ∀ v I2 L2, br_Inv xs I2 L2 → br_r (d + 81) 300 759 [some (.ref 1), some (.ref 8), some (.ref 169), some (.int (nI i))] [.int v, .int v] (br_hp n I2 L2) Q := fun v I2 L2 h => rb_law_759 (br_t rfl (rb_law_1787 (by rw [nI_add]; exact hN I2 L2 h)))
  by_cases hb1 : I 1 (i + 1) = nI 0
  · have hA := bp_deal (n := n) hI (nI 0) (I 1 (i + 2)) (I 1 (i + 3)) (Or.inl rfl)
    refine rb_law_705 ?_
    rw [eS]
    simp (disch := omega) only [nI_add, nI_clamp]
    repeat (first | refine ⟨vp_in_nI (by omega) (by omega), ?_⟩ | refine br_t hb1 ?_)
    refine hA _ _ (fun v I1 L1 h1 hM => rb_law_732 ?_)
    rw [eS]
    simp (disch := omega) only [nI_add, nI_clamp, h1]
    repeat (first | refine ⟨vp_in_nI (by omega) (by omega), ?_⟩ | refine br_t hb1 ?_)
    exact hM _ _ (fun I2 L2 hV => fin v I2 L2 hV)
  · have hA := bp_deal (n := n) hI (nI 1) (I 1 (i + 2)) (I 1 (i + 3)) (Or.inr rfl)
    refine rb_law_705 ?_
    rw [eS]
    simp (disch := omega) only [nI_add, nI_clamp]
    repeat (first | refine ⟨vp_in_nI (by omega) (by omega), ?_⟩ | refine br_f hb1 ?_)
    refine hA _ _ (fun v I1 L1 h1 hM => rb_law_732 ?_)
    rw [eS]
    simp (disch := omega) only [nI_add, nI_clamp, h1]
    repeat (first | refine ⟨vp_in_nI (by omega) (by omega), ?_⟩ | refine br_f hb1 ?_)
    exact hM _ _ (fun I2 L2 hV => fin v I2 L2 hV)
theorem bl_read {d n i : Nat} {xs : Nat → Int32} {Q : br_Q} {I : Nat → Nat → Int32} {L : Nat → Nat → Int64} (hI : br_Inv xs I L) (hi : i + 6 ≤ n) (hn : n ≤ 3072) (hN : ∀ I2 L2, br_Inv xs I2 L2 → br_r (d + 81) 300 18 [some (.ref 1), some (.ref 8), some (.ref 169), some (.int (nI (i + 6)))] [] (br_hp n I2 L2) Q) :
    br_r (d + 81) 300 764 [some (.ref 1), some (.ref 8), some (.ref 169), some (.int (nI i))] [] (br_hp n I L) Q := by
  have eS : (br_S0 n 1).2 = n := rfl
  have fin : ∀ v I2 L2, br_Inv xs I2 L2 → br_r (d + 81) 300 802 [some (.ref 1), some (.ref 8), some (.ref 169), some (.int (nI i))] [.int v, .int v] (br_hp n I2 L2) Q := fun v I2 L2 h => rb_law_802 (br_t rfl (rb_law_1787 (by rw [nI_add]; exact hN I2 L2 h)))
  have hA := bp_read (n := n) hI (I 1 (i + 1)) (I 1 (i + 2)) (I 1 (i + 3))
  refine rb_law_764 ?_
  rw [eS]
  simp (disch := omega) only [nI_add, nI_clamp]
  repeat (first | refine ⟨vp_in_nI (by omega) (by omega), ?_⟩)
  refine hA _ _ (fun v I1 L1 h1 hM => rb_law_783 ?_)
  rw [eS]
  simp (disch := omega) only [nI_add, nI_clamp, h1]
  repeat (first | refine ⟨vp_in_nI (by omega) (by omega), ?_⟩)
  exact hM _ _ (fun I2 L2 hV => fin v I2 L2 hV)
theorem bl_grew {d n i : Nat} {xs : Nat → Int32} {Q : br_Q} {I : Nat → Nat → Int32} {L : Nat → Nat → Int64} (hI : br_Inv xs I L) (hi : i + 6 ≤ n) (hn : n ≤ 3072) (hN : ∀ I2 L2, br_Inv xs I2 L2 → br_r (d + 81) 300 18 [some (.ref 1), some (.ref 8), some (.ref 169), some (.int (nI (i + 6)))] [] (br_hp n I2 L2) Q) :
    br_r (d + 81) 300 807 [some (.ref 1), some (.ref 8), some (.ref 169), some (.int (nI i))] [] (br_hp n I L) Q := by
  have eS : (br_S0 n 1).2 = n := rfl
  have fin : ∀ v I2 L2, br_Inv xs I2 L2 → br_r (d + 81) 300 845 [some (.ref 1), some (.ref 8), some (.ref 169), some (.int (nI i))] [.int v, .int v] (br_hp n I2 L2) Q := fun v I2 L2 h => rb_law_845 (br_t rfl (rb_law_1787 (by rw [nI_add]; exact hN I2 L2 h)))
  have hA := bp_grew (n := n) hI (I 1 (i + 1)) (I 1 (i + 2)) (I 1 (i + 3))
  refine rb_law_807 ?_
  rw [eS]
  simp (disch := omega) only [nI_add, nI_clamp]
  repeat (first | refine ⟨vp_in_nI (by omega) (by omega), ?_⟩)
  refine hA _ _ (fun v I1 L1 h1 hM => rb_law_826 ?_)
  rw [eS]
  simp (disch := omega) only [nI_add, nI_clamp, h1]
  repeat (first | refine ⟨vp_in_nI (by omega) (by omega), ?_⟩)
  exact hM _ _ (fun I2 L2 hV => fin v I2 L2 hV)
theorem bl_effect {d n i : Nat} {xs : Nat → Int32} {Q : br_Q} {I : Nat → Nat → Int32} {L : Nat → Nat → Int64} (hI : br_Inv xs I L) (hi : i + 6 ≤ n) (hn : n ≤ 3072) (hN : ∀ I2 L2, br_Inv xs I2 L2 → br_r (d + 81) 300 18 [some (.ref 1), some (.ref 8), some (.ref 169), some (.int (nI (i + 6)))] [] (br_hp n I2 L2) Q) :
    br_r (d + 81) 300 850 [some (.ref 1), some (.ref 8), some (.ref 169), some (.int (nI i))] [] (br_hp n I L) Q := by
  have eS : (br_S0 n 1).2 = n := rfl
  have fin : ∀ v I2 L2, br_Inv xs I2 L2 → br_r (d + 81) 300 888 [some (.ref 1), some (.ref 8), some (.ref 169), some (.int (nI i))] [.int v, .int v] (br_hp n I2 L2) Q := fun v I2 L2 h => rb_law_888 (br_t rfl (rb_law_1787 (by rw [nI_add]; exact hN I2 L2 h)))
  have hA := bp_effect (n := n) hI (I 1 (i + 1)) (I 1 (i + 2)) (I 1 (i + 3))
  refine rb_law_850 ?_
  rw [eS]
  simp (disch := omega) only [nI_add, nI_clamp]
  repeat (first | refine ⟨vp_in_nI (by omega) (by omega), ?_⟩)
  refine hA _ _ (fun v I1 L1 h1 hM => rb_law_869 ?_)
  rw [eS]
  simp (disch := omega) only [nI_add, nI_clamp, h1]
  repeat (first | refine ⟨vp_in_nI (by omega) (by omega), ?_⟩)
  exact hM _ _ (fun I2 L2 hV => fin v I2 L2 hV)
theorem bl_sure {d n i : Nat} {xs : Nat → Int32} {Q : br_Q} {I : Nat → Nat → Int32} {L : Nat → Nat → Int64} (hI : br_Inv xs I L) (hi : i + 6 ≤ n) (hn : n ≤ 3072) (hN : ∀ I2 L2, br_Inv xs I2 L2 → br_r (d + 81) 300 18 [some (.ref 1), some (.ref 8), some (.ref 169), some (.int (nI (i + 6)))] [] (br_hp n I2 L2) Q) :
    br_r (d + 81) 300 893 [some (.ref 1), some (.ref 8), some (.ref 169), some (.int (nI i))] [] (br_hp n I L) Q := by
  have eS : (br_S0 n 1).2 = n := rfl
  have fin : ∀ v I2 L2, br_Inv xs I2 L2 → br_r (d + 81) 300 901 [some (.ref 1), some (.ref 8), some (.ref 169), some (.int (nI i))] [.int v, .int v] (br_hp n I2 L2) Q := fun v I2 L2 h => rb_law_901 (br_t rfl (rb_law_1787 (by rw [nI_add]; exact hN I2 L2 h)))
  have hA := bp_sure (n := n) hI 
  refine rb_law_893 ?_
  refine hA _ _ (fun v I1 L1 h1 hM => rb_law_897 ?_)
  exact hM _ _ (fun I2 L2 hV => fin v I2 L2 hV)
theorem bl_upper {d n i : Nat} {xs : Nat → Int32} {Q : br_Q} {I : Nat → Nat → Int32} {L : Nat → Nat → Int64} (hI : br_Inv xs I L) (hi : i + 6 ≤ n) (hn : n ≤ 3072) (hN : ∀ I2 L2, br_Inv xs I2 L2 → br_r (d + 81) 300 18 [some (.ref 1), some (.ref 8), some (.ref 169), some (.int (nI (i + 6)))] [] (br_hp n I2 L2) Q) :
    br_r (d + 81) 300 906 [some (.ref 1), some (.ref 8), some (.ref 169), some (.int (nI i))] [] (br_hp n I L) Q := by
  have eS : (br_S0 n 1).2 = n := rfl
  have fin : ∀ v I2 L2, br_Inv xs I2 L2 → br_r (d + 81) 300 914 [some (.ref 1), some (.ref 8), some (.ref 169), some (.int (nI i))] [.long v, .long v] (br_hp n I2 L2) Q := fun v I2 L2 h => rb_law_914 (br_t (br_cmpE.mpr rfl) (rb_law_1787 (by rw [nI_add]; exact hN I2 L2 h)))
  have hA := bp_upper (n := n) hI 
  refine rb_law_906 ?_
  refine hA _ _ (fun v I1 L1 h1 hM => rb_law_910 ?_)
  exact hM _ _ (fun I2 L2 hV => fin v I2 L2 hV)
theorem bl_lower {d n i : Nat} {xs : Nat → Int32} {Q : br_Q} {I : Nat → Nat → Int32} {L : Nat → Nat → Int64} (hI : br_Inv xs I L) (hi : i + 6 ≤ n) (hn : n ≤ 3072) (hN : ∀ I2 L2, br_Inv xs I2 L2 → br_r (d + 81) 300 18 [some (.ref 1), some (.ref 8), some (.ref 169), some (.int (nI (i + 6)))] [] (br_hp n I2 L2) Q) :
    br_r (d + 81) 300 920 [some (.ref 1), some (.ref 8), some (.ref 169), some (.int (nI i))] [] (br_hp n I L) Q := by
  have eS : (br_S0 n 1).2 = n := rfl
  have fin : ∀ v I2 L2, br_Inv xs I2 L2 → br_r (d + 81) 300 928 [some (.ref 1), some (.ref 8), some (.ref 169), some (.int (nI i))] [.long v, .long v] (br_hp n I2 L2) Q := fun v I2 L2 h => rb_law_928 (br_t (br_cmpE.mpr rfl) (rb_law_1787 (by rw [nI_add]; exact hN I2 L2 h)))
  have hA := bp_lower (n := n) hI 
  refine rb_law_920 ?_
  refine hA _ _ (fun v I1 L1 h1 hM => rb_law_924 ?_)
  exact hM _ _ (fun I2 L2 hV => fin v I2 L2 hV)
theorem bl_looks {d n i : Nat} {xs : Nat → Int32} {Q : br_Q} {I : Nat → Nat → Int32} {L : Nat → Nat → Int64} (hI : br_Inv xs I L) (hi : i + 6 ≤ n) (hn : n ≤ 3072) (hN : ∀ I2 L2, br_Inv xs I2 L2 → br_r (d + 81) 300 18 [some (.ref 1), some (.ref 8), some (.ref 169), some (.int (nI (i + 6)))] [] (br_hp n I2 L2) Q) :
    br_r (d + 81) 300 934 [some (.ref 1), some (.ref 8), some (.ref 169), some (.int (nI i))] [] (br_hp n I L) Q := by
  have eS : (br_S0 n 1).2 = n := rfl
  have fin : ∀ v I2 L2, br_Inv xs I2 L2 → br_r (d + 81) 300 952 [some (.ref 1), some (.ref 8), some (.ref 169), some (.int (nI i))] [.int v, .int v] (br_hp n I2 L2) Q := fun v I2 L2 h => rb_law_952 (br_t rfl (rb_law_1787 (by rw [nI_add]; exact hN I2 L2 h)))
  have hA := bp_looks (n := n) hI (I 1 (i + 1))
  refine rb_law_934 ?_
  rw [eS]
  simp (disch := omega) only [nI_add, nI_clamp]
  repeat (first | refine ⟨vp_in_nI (by omega) (by omega), ?_⟩)
  refine hA _ _ (fun v I1 L1 h1 hM => rb_law_943 ?_)
  rw [eS]
  simp (disch := omega) only [nI_add, nI_clamp, h1]
  repeat (first | refine ⟨vp_in_nI (by omega) (by omega), ?_⟩)
  exact hM _ _ (fun I2 L2 hV => fin v I2 L2 hV)
theorem bl_paid {d n i : Nat} {xs : Nat → Int32} {Q : br_Q} {I : Nat → Nat → Int32} {L : Nat → Nat → Int64} (hI : br_Inv xs I L) (hi : i + 6 ≤ n) (hn : n ≤ 3072) (hN : ∀ I2 L2, br_Inv xs I2 L2 → br_r (d + 81) 300 18 [some (.ref 1), some (.ref 8), some (.ref 169), some (.int (nI (i + 6)))] [] (br_hp n I2 L2) Q) :
    br_r (d + 81) 300 957 [some (.ref 1), some (.ref 8), some (.ref 169), some (.int (nI i))] [] (br_hp n I L) Q := by
  have eS : (br_S0 n 1).2 = n := rfl
  have fin : ∀ v I2 L2, br_Inv xs I2 L2 → br_r (d + 81) 300 965 [some (.ref 1), some (.ref 8), some (.ref 169), some (.int (nI i))] [.int v, .int v] (br_hp n I2 L2) Q := fun v I2 L2 h => rb_law_965 (br_t rfl (rb_law_1787 (by rw [nI_add]; exact hN I2 L2 h)))
  have hA := bp_paid (n := n) hI 
  refine rb_law_957 ?_
  refine hA _ _ (fun v I1 L1 h1 hM => rb_law_961 ?_)
  exact hM _ _ (fun I2 L2 hV => fin v I2 L2 hV)
theorem bl_mean {d n i : Nat} {xs : Nat → Int32} {Q : br_Q} {I : Nat → Nat → Int32} {L : Nat → Nat → Int64} (hI : br_Inv xs I L) (hi : i + 6 ≤ n) (hn : n ≤ 3072) (hN : ∀ I2 L2, br_Inv xs I2 L2 → br_r (d + 81) 300 18 [some (.ref 1), some (.ref 8), some (.ref 169), some (.int (nI (i + 6)))] [] (br_hp n I2 L2) Q) :
    br_r (d + 81) 300 970 [some (.ref 1), some (.ref 8), some (.ref 169), some (.int (nI i))] [] (br_hp n I L) Q := by
  have eS : (br_S0 n 1).2 = n := rfl
  have fin : ∀ v I2 L2, br_Inv xs I2 L2 → br_r (d + 81) 300 1008 [some (.ref 1), some (.ref 8), some (.ref 169), some (.int (nI i))] [.int v, .int v] (br_hp n I2 L2) Q := fun v I2 L2 h => rb_law_1008 (br_t rfl (rb_law_1787 (by rw [nI_add]; exact hN I2 L2 h)))
  have hA := bp_mean (n := n) hI (I 1 (i + 1)) (I 1 (i + 2)) (I 1 (i + 3))
  refine rb_law_970 ?_
  rw [eS]
  simp (disch := omega) only [nI_add, nI_clamp]
  repeat (first | refine ⟨vp_in_nI (by omega) (by omega), ?_⟩)
  refine hA _ _ (fun v I1 L1 h1 hM => rb_law_989 ?_)
  rw [eS]
  simp (disch := omega) only [nI_add, nI_clamp, h1]
  repeat (first | refine ⟨vp_in_nI (by omega) (by omega), ?_⟩)
  exact hM _ _ (fun I2 L2 hV => fin v I2 L2 hV)
theorem bl_film {d n i : Nat} {xs : Nat → Int32} {Q : br_Q} {I : Nat → Nat → Int32} {L : Nat → Nat → Int64} (hI : br_Inv xs I L) (hi : i + 6 ≤ n) (hn : n ≤ 3072) (hN : ∀ I2 L2, br_Inv xs I2 L2 → br_r (d + 81) 300 18 [some (.ref 1), some (.ref 8), some (.ref 169), some (.int (nI (i + 6)))] [] (br_hp n I2 L2) Q) :
    br_r (d + 81) 300 1013 [some (.ref 1), some (.ref 8), some (.ref 169), some (.int (nI i))] [] (br_hp n I L) Q := by
  have eS : (br_S0 n 1).2 = n := rfl
  have fin : ∀ v I2 L2, br_Inv xs I2 L2 → br_r (d + 81) 300 1067 [some (.ref 1), some (.ref 8), some (.ref 169), some (.int (nI i))] [.int v, .int v] (br_hp n I2 L2) Q := fun v I2 L2 h => rb_law_1067 (br_t rfl (rb_law_1787 (by rw [nI_add]; exact hN I2 L2 h)))
  by_cases hb2 : I 1 (i + 2) = nI 0
  · have hA := bp_film (n := n) hI (I 1 (i + 1)) (nI 0) (I 1 (i + 3)) (Or.inl rfl)
    refine rb_law_1013 ?_
    rw [eS]
    simp (disch := omega) only [nI_add, nI_clamp]
    repeat (first | refine ⟨vp_in_nI (by omega) (by omega), ?_⟩ | refine br_t hb2 ?_)
    refine hA _ _ (fun v I1 L1 h1 hM => rb_law_1040 ?_)
    rw [eS]
    simp (disch := omega) only [nI_add, nI_clamp, h1]
    repeat (first | refine ⟨vp_in_nI (by omega) (by omega), ?_⟩ | refine br_t hb2 ?_)
    exact hM _ _ (fun I2 L2 hV => fin v I2 L2 hV)
  · have hA := bp_film (n := n) hI (I 1 (i + 1)) (nI 1) (I 1 (i + 3)) (Or.inr rfl)
    refine rb_law_1013 ?_
    rw [eS]
    simp (disch := omega) only [nI_add, nI_clamp]
    repeat (first | refine ⟨vp_in_nI (by omega) (by omega), ?_⟩ | refine br_f hb2 ?_)
    refine hA _ _ (fun v I1 L1 h1 hM => rb_law_1040 ?_)
    rw [eS]
    simp (disch := omega) only [nI_add, nI_clamp, h1]
    repeat (first | refine ⟨vp_in_nI (by omega) (by omega), ?_⟩ | refine br_f hb2 ?_)
    exact hM _ _ (fun I2 L2 hV => fin v I2 L2 hV)
theorem bl_hair {d n i : Nat} {xs : Nat → Int32} {Q : br_Q} {I : Nat → Nat → Int32} {L : Nat → Nat → Int64} (hI : br_Inv xs I L) (hi : i + 6 ≤ n) (hn : n ≤ 3072) (hN : ∀ I2 L2, br_Inv xs I2 L2 → br_r (d + 81) 300 18 [some (.ref 1), some (.ref 8), some (.ref 169), some (.int (nI (i + 6)))] [] (br_hp n I2 L2) Q) :
    br_r (d + 81) 300 1072 [some (.ref 1), some (.ref 8), some (.ref 169), some (.int (nI i))] [] (br_hp n I L) Q := by
  have eS : (br_S0 n 1).2 = n := rfl
  have fin : ∀ v I2 L2, br_Inv xs I2 L2 → br_r (d + 81) 300 1100 [some (.ref 1), some (.ref 8), some (.ref 169), some (.int (nI i))] [.int v, .int v] (br_hp n I2 L2) Q := fun v I2 L2 h => rb_law_1100 (br_t rfl (rb_law_1787 (by rw [nI_add]; exact hN I2 L2 h)))
  have hA := bp_hair (n := n) hI (I 1 (i + 1)) (I 1 (i + 2))
  refine rb_law_1072 ?_
  rw [eS]
  simp (disch := omega) only [nI_add, nI_clamp]
  repeat (first | refine ⟨vp_in_nI (by omega) (by omega), ?_⟩)
  refine hA _ _ (fun v I1 L1 h1 hM => rb_law_1086 ?_)
  rw [eS]
  simp (disch := omega) only [nI_add, nI_clamp, h1]
  repeat (first | refine ⟨vp_in_nI (by omega) (by omega), ?_⟩)
  exact hM _ _ (fun I2 L2 hV => fin v I2 L2 hV)
theorem bl_carried {d n i : Nat} {xs : Nat → Int32} {Q : br_Q} {I : Nat → Nat → Int32} {L : Nat → Nat → Int64} (hI : br_Inv xs I L) (hi : i + 6 ≤ n) (hn : n ≤ 3072) (hN : ∀ I2 L2, br_Inv xs I2 L2 → br_r (d + 81) 300 18 [some (.ref 1), some (.ref 8), some (.ref 169), some (.int (nI (i + 6)))] [] (br_hp n I2 L2) Q) :
    br_r (d + 81) 300 1105 [some (.ref 1), some (.ref 8), some (.ref 169), some (.int (nI i))] [] (br_hp n I L) Q := by
  have eS : (br_S0 n 1).2 = n := rfl
  have fin : ∀ v I2 L2, br_Inv xs I2 L2 → br_r (d + 81) 300 1113 [some (.ref 1), some (.ref 8), some (.ref 169), some (.int (nI i))] [.int v, .int v] (br_hp n I2 L2) Q := fun v I2 L2 h => rb_law_1113 (br_t rfl (rb_law_1787 (by rw [nI_add]; exact hN I2 L2 h)))
  have hA := bp_carried (n := n) hI 
  refine rb_law_1105 ?_
  refine hA _ _ (fun v I1 L1 h1 hM => rb_law_1109 ?_)
  exact hM _ _ (fun I2 L2 hV => fin v I2 L2 hV)
theorem bl_enough {d n i : Nat} {xs : Nat → Int32} {Q : br_Q} {I : Nat → Nat → Int32} {L : Nat → Nat → Int64} (hI : br_Inv xs I L) (hi : i + 6 ≤ n) (hn : n ≤ 3072) (hN : ∀ I2 L2, br_Inv xs I2 L2 → br_r (d + 81) 300 18 [some (.ref 1), some (.ref 8), some (.ref 169), some (.int (nI (i + 6)))] [] (br_hp n I2 L2) Q) :
    br_r (d + 81) 300 1118 [some (.ref 1), some (.ref 8), some (.ref 169), some (.int (nI i))] [] (br_hp n I L) Q := by
  have eS : (br_S0 n 1).2 = n := rfl
  have fin : ∀ v I2 L2, br_Inv xs I2 L2 → br_r (d + 81) 300 1146 [some (.ref 1), some (.ref 8), some (.ref 169), some (.int (nI i))] [.int v, .int v] (br_hp n I2 L2) Q := fun v I2 L2 h => rb_law_1146 (br_t rfl (rb_law_1787 (by rw [nI_add]; exact hN I2 L2 h)))
  have hA := bp_enough (n := n) hI (I 1 (i + 1)) (I 1 (i + 2))
  refine rb_law_1118 ?_
  rw [eS]
  simp (disch := omega) only [nI_add, nI_clamp]
  repeat (first | refine ⟨vp_in_nI (by omega) (by omega), ?_⟩)
  refine hA _ _ (fun v I1 L1 h1 hM => rb_law_1132 ?_)
  rw [eS]
  simp (disch := omega) only [nI_add, nI_clamp, h1]
  repeat (first | refine ⟨vp_in_nI (by omega) (by omega), ?_⟩)
  exact hM _ _ (fun I2 L2 hV => fin v I2 L2 hV)
theorem bl_mark {d n i : Nat} {xs : Nat → Int32} {Q : br_Q} {I : Nat → Nat → Int32} {L : Nat → Nat → Int64} (hI : br_Inv xs I L) (hi : i + 6 ≤ n) (hn : n ≤ 3072) (hN : ∀ I2 L2, br_Inv xs I2 L2 → br_r (d + 81) 300 18 [some (.ref 1), some (.ref 8), some (.ref 169), some (.int (nI (i + 6)))] [] (br_hp n I2 L2) Q) :
    br_r (d + 81) 300 1151 [some (.ref 1), some (.ref 8), some (.ref 169), some (.int (nI i))] [] (br_hp n I L) Q := by
  have eS : (br_S0 n 1).2 = n := rfl
  have fin : ∀ v I2 L2, br_Inv xs I2 L2 → br_r (d + 81) 300 1189 [some (.ref 1), some (.ref 8), some (.ref 169), some (.int (nI i))] [.int v, .int v] (br_hp n I2 L2) Q := fun v I2 L2 h => rb_law_1189 (br_t rfl (rb_law_1787 (by rw [nI_add]; exact hN I2 L2 h)))
  have hA := bp_mark (n := n) hI (I 1 (i + 1)) (I 1 (i + 2)) (I 1 (i + 3))
  refine rb_law_1151 ?_
  rw [eS]
  simp (disch := omega) only [nI_add, nI_clamp]
  repeat (first | refine ⟨vp_in_nI (by omega) (by omega), ?_⟩)
  refine hA _ _ (fun v I1 L1 h1 hM => rb_law_1170 ?_)
  rw [eS]
  simp (disch := omega) only [nI_add, nI_clamp, h1]
  repeat (first | refine ⟨vp_in_nI (by omega) (by omega), ?_⟩)
  exact hM _ _ (fun I2 L2 hV => fin v I2 L2 hV)
theorem bl_same {d n i : Nat} {xs : Nat → Int32} {Q : br_Q} {I : Nat → Nat → Int32} {L : Nat → Nat → Int64} (hI : br_Inv xs I L) (hi : i + 6 ≤ n) (hn : n ≤ 3072) (hN : ∀ I2 L2, br_Inv xs I2 L2 → br_r (d + 81) 300 18 [some (.ref 1), some (.ref 8), some (.ref 169), some (.int (nI (i + 6)))] [] (br_hp n I2 L2) Q) :
    br_r (d + 81) 300 1194 [some (.ref 1), some (.ref 8), some (.ref 169), some (.int (nI i))] [] (br_hp n I L) Q := by
  have eS : (br_S0 n 1).2 = n := rfl
  have fin : ∀ v I2 L2, br_Inv xs I2 L2 → br_r (d + 81) 300 1212 [some (.ref 1), some (.ref 8), some (.ref 169), some (.int (nI i))] [.int v, .int v] (br_hp n I2 L2) Q := fun v I2 L2 h => rb_law_1212 (br_t rfl (rb_law_1787 (by rw [nI_add]; exact hN I2 L2 h)))
  have hA := bp_same (n := n) hI (I 1 (i + 1))
  refine rb_law_1194 ?_
  rw [eS]
  simp (disch := omega) only [nI_add, nI_clamp]
  repeat (first | refine ⟨vp_in_nI (by omega) (by omega), ?_⟩)
  refine hA _ _ (fun v I1 L1 h1 hM => rb_law_1203 ?_)
  rw [eS]
  simp (disch := omega) only [nI_add, nI_clamp, h1]
  repeat (first | refine ⟨vp_in_nI (by omega) (by omega), ?_⟩)
  exact hM _ _ (fun I2 L2 hV => fin v I2 L2 hV)
theorem bl_trial {d n i : Nat} {xs : Nat → Int32} {Q : br_Q} {I : Nat → Nat → Int32} {L : Nat → Nat → Int64} (hI : br_Inv xs I L) (hi : i + 6 ≤ n) (hn : n ≤ 3072) (hN : ∀ I2 L2, br_Inv xs I2 L2 → br_r (d + 81) 300 18 [some (.ref 1), some (.ref 8), some (.ref 169), some (.int (nI (i + 6)))] [] (br_hp n I2 L2) Q) :
    br_r (d + 81) 300 1217 [some (.ref 1), some (.ref 8), some (.ref 169), some (.int (nI i))] [] (br_hp n I L) Q := by
  have eS : (br_S0 n 1).2 = n := rfl
  have fin : ∀ v I2 L2, br_Inv xs I2 L2 → br_r (d + 81) 300 1281 [some (.ref 1), some (.ref 8), some (.ref 169), some (.int (nI i))] [.int v, .int v] (br_hp n I2 L2) Q := fun v I2 L2 h => rb_law_1281 (br_t rfl (rb_law_1787 (by rw [nI_add]; exact hN I2 L2 h)))
  by_cases hb4 : I 1 (i + 4) = nI 0
  · have hA := bp_trial (n := n) hI (I 1 (i + 1)) (I 1 (i + 2)) (I 1 (i + 3)) (nI 0) (Or.inl rfl)
    refine rb_law_1217 ?_
    rw [eS]
    simp (disch := omega) only [nI_add, nI_clamp]
    repeat (first | refine ⟨vp_in_nI (by omega) (by omega), ?_⟩ | refine br_t hb4 ?_)
    refine hA _ _ (fun v I1 L1 h1 hM => rb_law_1249 ?_)
    rw [eS]
    simp (disch := omega) only [nI_add, nI_clamp, h1]
    repeat (first | refine ⟨vp_in_nI (by omega) (by omega), ?_⟩ | refine br_t hb4 ?_)
    exact hM _ _ (fun I2 L2 hV => fin v I2 L2 hV)
  · have hA := bp_trial (n := n) hI (I 1 (i + 1)) (I 1 (i + 2)) (I 1 (i + 3)) (nI 1) (Or.inr rfl)
    refine rb_law_1217 ?_
    rw [eS]
    simp (disch := omega) only [nI_add, nI_clamp]
    repeat (first | refine ⟨vp_in_nI (by omega) (by omega), ?_⟩ | refine br_f hb4 ?_)
    refine hA _ _ (fun v I1 L1 h1 hM => rb_law_1249 ?_)
    rw [eS]
    simp (disch := omega) only [nI_add, nI_clamp, h1]
    repeat (first | refine ⟨vp_in_nI (by omega) (by omega), ?_⟩ | refine br_f hb4 ?_)
    exact hM _ _ (fun I2 L2 hV => fin v I2 L2 hV)
theorem bl_curve {d n i : Nat} {xs : Nat → Int32} {Q : br_Q} {I : Nat → Nat → Int32} {L : Nat → Nat → Int64} (hI : br_Inv xs I L) (hi : i + 6 ≤ n) (hn : n ≤ 3072) (hN : ∀ I2 L2, br_Inv xs I2 L2 → br_r (d + 81) 300 18 [some (.ref 1), some (.ref 8), some (.ref 169), some (.int (nI (i + 6)))] [] (br_hp n I2 L2) Q) :
    br_r (d + 81) 300 1286 [some (.ref 1), some (.ref 8), some (.ref 169), some (.int (nI i))] [] (br_hp n I L) Q := by
  have eS : (br_S0 n 1).2 = n := rfl
  have fin : ∀ v I2 L2, br_Inv xs I2 L2 → br_r (d + 81) 300 1320 [some (.ref 1), some (.ref 8), some (.ref 169), some (.int (nI i))] [.int v, .int v] (br_hp n I2 L2) Q := fun v I2 L2 h => rb_law_1320 (br_t rfl (rb_law_1787 (by rw [nI_add]; exact hN I2 L2 h)))
  by_cases hb1 : I 1 (i + 1) = nI 0
  · have hA := bp_curve (n := n) hI (nI 0) (Or.inl rfl)
    refine rb_law_1286 ?_
    rw [eS]
    simp (disch := omega) only [nI_add, nI_clamp]
    repeat (first | refine ⟨vp_in_nI (by omega) (by omega), ?_⟩ | refine br_t hb1 ?_)
    refine hA _ _ (fun v I1 L1 h1 hM => rb_law_1303 ?_)
    rw [eS]
    simp (disch := omega) only [nI_add, nI_clamp, h1]
    repeat (first | refine ⟨vp_in_nI (by omega) (by omega), ?_⟩ | refine br_t hb1 ?_)
    exact hM _ _ (fun I2 L2 hV => fin v I2 L2 hV)
  · have hA := bp_curve (n := n) hI (nI 1) (Or.inr rfl)
    refine rb_law_1286 ?_
    rw [eS]
    simp (disch := omega) only [nI_add, nI_clamp]
    repeat (first | refine ⟨vp_in_nI (by omega) (by omega), ?_⟩ | refine br_f hb1 ?_)
    refine hA _ _ (fun v I1 L1 h1 hM => rb_law_1303 ?_)
    rw [eS]
    simp (disch := omega) only [nI_add, nI_clamp, h1]
    repeat (first | refine ⟨vp_in_nI (by omega) (by omega), ?_⟩ | refine br_f hb1 ?_)
    exact hM _ _ (fun I2 L2 hV => fin v I2 L2 hV)
theorem bl_edge {d n i : Nat} {xs : Nat → Int32} {Q : br_Q} {I : Nat → Nat → Int32} {L : Nat → Nat → Int64} (hI : br_Inv xs I L) (hi : i + 6 ≤ n) (hn : n ≤ 3072) (hN : ∀ I2 L2, br_Inv xs I2 L2 → br_r (d + 81) 300 18 [some (.ref 1), some (.ref 8), some (.ref 169), some (.int (nI (i + 6)))] [] (br_hp n I2 L2) Q) :
    br_r (d + 81) 300 1325 [some (.ref 1), some (.ref 8), some (.ref 169), some (.int (nI i))] [] (br_hp n I L) Q := by
  have eS : (br_S0 n 1).2 = n := rfl
  have fin : ∀ v I2 L2, br_Inv xs I2 L2 → br_r (d + 81) 300 1385 [some (.ref 1), some (.ref 8), some (.ref 169), some (.int (nI i))] [.int v, .int v] (br_hp n I2 L2) Q := fun v I2 L2 h => rb_law_1385 (br_t rfl (rb_law_1787 (by rw [nI_add]; exact hN I2 L2 h)))
  by_cases hb1 : I 1 (i + 1) = nI 0
  · by_cases hb2 : I 1 (i + 2) = nI 0
    · have hA := bp_edge (n := n) hI (nI 0) (nI 0) (Or.inl rfl) (Or.inl rfl)
      refine rb_law_1325 ?_
      rw [eS]
      simp (disch := omega) only [nI_add, nI_clamp]
      repeat (first | refine ⟨vp_in_nI (by omega) (by omega), ?_⟩ | refine br_t hb1 ?_ | refine br_t hb2 ?_)
      refine hA _ _ (fun v I1 L1 h1 hM => rb_law_1355 ?_)
      rw [eS]
      simp (disch := omega) only [nI_add, nI_clamp, h1]
      repeat (first | refine ⟨vp_in_nI (by omega) (by omega), ?_⟩ | refine br_t hb1 ?_ | refine br_t hb2 ?_)
      exact hM _ _ (fun I2 L2 hV => fin v I2 L2 hV)
    · have hA := bp_edge (n := n) hI (nI 0) (nI 1) (Or.inl rfl) (Or.inr rfl)
      refine rb_law_1325 ?_
      rw [eS]
      simp (disch := omega) only [nI_add, nI_clamp]
      repeat (first | refine ⟨vp_in_nI (by omega) (by omega), ?_⟩ | refine br_t hb1 ?_ | refine br_f hb2 ?_)
      refine hA _ _ (fun v I1 L1 h1 hM => rb_law_1355 ?_)
      rw [eS]
      simp (disch := omega) only [nI_add, nI_clamp, h1]
      repeat (first | refine ⟨vp_in_nI (by omega) (by omega), ?_⟩ | refine br_t hb1 ?_ | refine br_f hb2 ?_)
      exact hM _ _ (fun I2 L2 hV => fin v I2 L2 hV)
  · by_cases hb2 : I 1 (i + 2) = nI 0
    · have hA := bp_edge (n := n) hI (nI 1) (nI 0) (Or.inr rfl) (Or.inl rfl)
      refine rb_law_1325 ?_
      rw [eS]
      simp (disch := omega) only [nI_add, nI_clamp]
      repeat (first | refine ⟨vp_in_nI (by omega) (by omega), ?_⟩ | refine br_f hb1 ?_ | refine br_t hb2 ?_)
      refine hA _ _ (fun v I1 L1 h1 hM => rb_law_1355 ?_)
      rw [eS]
      simp (disch := omega) only [nI_add, nI_clamp, h1]
      repeat (first | refine ⟨vp_in_nI (by omega) (by omega), ?_⟩ | refine br_f hb1 ?_ | refine br_t hb2 ?_)
      exact hM _ _ (fun I2 L2 hV => fin v I2 L2 hV)
    · have hA := bp_edge (n := n) hI (nI 1) (nI 1) (Or.inr rfl) (Or.inr rfl)
      refine rb_law_1325 ?_
      rw [eS]
      simp (disch := omega) only [nI_add, nI_clamp]
      repeat (first | refine ⟨vp_in_nI (by omega) (by omega), ?_⟩ | refine br_f hb1 ?_ | refine br_f hb2 ?_)
      refine hA _ _ (fun v I1 L1 h1 hM => rb_law_1355 ?_)
      rw [eS]
      simp (disch := omega) only [nI_add, nI_clamp, h1]
      repeat (first | refine ⟨vp_in_nI (by omega) (by omega), ?_⟩ | refine br_f hb1 ?_ | refine br_f hb2 ?_)
      exact hM _ _ (fun I2 L2 hV => fin v I2 L2 hV)
theorem bl_keep {d n i : Nat} {xs : Nat → Int32} {Q : br_Q} {I : Nat → Nat → Int32} {L : Nat → Nat → Int64} (hI : br_Inv xs I L) (hi : i + 6 ≤ n) (hn : n ≤ 3072) (hN : ∀ I2 L2, br_Inv xs I2 L2 → br_r (d + 81) 300 18 [some (.ref 1), some (.ref 8), some (.ref 169), some (.int (nI (i + 6)))] [] (br_hp n I2 L2) Q) :
    br_r (d + 81) 300 1390 [some (.ref 1), some (.ref 8), some (.ref 169), some (.int (nI i))] [] (br_hp n I L) Q := by
  have eS : (br_S0 n 1).2 = n := rfl
  have fin : ∀ v I2 L2, br_Inv xs I2 L2 → br_r (d + 81) 300 1408 [some (.ref 1), some (.ref 8), some (.ref 169), some (.int (nI i))] [.int v, .int v] (br_hp n I2 L2) Q := fun v I2 L2 h => rb_law_1408 (br_t rfl (rb_law_1787 (by rw [nI_add]; exact hN I2 L2 h)))
  have hA := bp_keep (n := n) hI (I 1 (i + 1))
  refine rb_law_1390 ?_
  rw [eS]
  simp (disch := omega) only [nI_add, nI_clamp]
  repeat (first | refine ⟨vp_in_nI (by omega) (by omega), ?_⟩)
  refine hA _ _ (fun v I1 L1 h1 hM => rb_law_1399 ?_)
  rw [eS]
  simp (disch := omega) only [nI_add, nI_clamp, h1]
  repeat (first | refine ⟨vp_in_nI (by omega) (by omega), ?_⟩)
  exact hM _ _ (fun I2 L2 hV => fin v I2 L2 hV)
theorem bl_fits {d n i : Nat} {xs : Nat → Int32} {Q : br_Q} {I : Nat → Nat → Int32} {L : Nat → Nat → Int64} (hI : br_Inv xs I L) (hi : i + 6 ≤ n) (hn : n ≤ 3072) (hN : ∀ I2 L2, br_Inv xs I2 L2 → br_r (d + 81) 300 18 [some (.ref 1), some (.ref 8), some (.ref 169), some (.int (nI (i + 6)))] [] (br_hp n I2 L2) Q) :
    br_r (d + 81) 300 1413 [some (.ref 1), some (.ref 8), some (.ref 169), some (.int (nI i))] [] (br_hp n I L) Q := by
  have eS : (br_S0 n 1).2 = n := rfl
  have fin : ∀ v I2 L2, br_Inv xs I2 L2 → br_r (d + 81) 300 1451 [some (.ref 1), some (.ref 8), some (.ref 169), some (.int (nI i))] [.int v, .int v] (br_hp n I2 L2) Q := fun v I2 L2 h => rb_law_1451 (br_t rfl (rb_law_1787 (by rw [nI_add]; exact hN I2 L2 h)))
  have hA := bp_fits (n := n) hI (I 1 (i + 1)) (I 1 (i + 2)) (I 1 (i + 3))
  refine rb_law_1413 ?_
  rw [eS]
  simp (disch := omega) only [nI_add, nI_clamp]
  repeat (first | refine ⟨vp_in_nI (by omega) (by omega), ?_⟩)
  refine hA _ _ (fun v I1 L1 h1 hM => rb_law_1432 ?_)
  rw [eS]
  simp (disch := omega) only [nI_add, nI_clamp, h1]
  repeat (first | refine ⟨vp_in_nI (by omega) (by omega), ?_⟩)
  exact hM _ _ (fun I2 L2 hV => fin v I2 L2 hV)
theorem bl_likely {d n i : Nat} {xs : Nat → Int32} {Q : br_Q} {I : Nat → Nat → Int32} {L : Nat → Nat → Int64} (hI : br_Inv xs I L) (hi : i + 6 ≤ n) (hn : n ≤ 3072) (hN : ∀ I2 L2, br_Inv xs I2 L2 → br_r (d + 81) 300 18 [some (.ref 1), some (.ref 8), some (.ref 169), some (.int (nI (i + 6)))] [] (br_hp n I2 L2) Q) :
    br_r (d + 81) 300 1456 [some (.ref 1), some (.ref 8), some (.ref 169), some (.int (nI i))] [] (br_hp n I L) Q := by
  have eS : (br_S0 n 1).2 = n := rfl
  have fin : ∀ v I2 L2, br_Inv xs I2 L2 → br_r (d + 81) 300 1484 [some (.ref 1), some (.ref 8), some (.ref 169), some (.int (nI i))] [.int v, .int v] (br_hp n I2 L2) Q := fun v I2 L2 h => rb_law_1484 (br_t rfl (rb_law_1787 (by rw [nI_add]; exact hN I2 L2 h)))
  have hA := bp_likely (n := n) hI (I 1 (i + 1)) (I 1 (i + 2))
  refine rb_law_1456 ?_
  rw [eS]
  simp (disch := omega) only [nI_add, nI_clamp]
  repeat (first | refine ⟨vp_in_nI (by omega) (by omega), ?_⟩)
  refine hA _ _ (fun v I1 L1 h1 hM => rb_law_1470 ?_)
  rw [eS]
  simp (disch := omega) only [nI_add, nI_clamp, h1]
  repeat (first | refine ⟨vp_in_nI (by omega) (by omega), ?_⟩)
  exact hM _ _ (fun I2 L2 hV => fin v I2 L2 hV)
theorem bl_needed {d n i : Nat} {xs : Nat → Int32} {Q : br_Q} {I : Nat → Nat → Int32} {L : Nat → Nat → Int64} (hI : br_Inv xs I L) (hi : i + 6 ≤ n) (hn : n ≤ 3072) (hN : ∀ I2 L2, br_Inv xs I2 L2 → br_r (d + 81) 300 18 [some (.ref 1), some (.ref 8), some (.ref 169), some (.int (nI (i + 6)))] [] (br_hp n I2 L2) Q) :
    br_r (d + 81) 300 1489 [some (.ref 1), some (.ref 8), some (.ref 169), some (.int (nI i))] [] (br_hp n I L) Q := by
  have eS : (br_S0 n 1).2 = n := rfl
  have fin : ∀ v I2 L2, br_Inv xs I2 L2 → br_r (d + 81) 300 1507 [some (.ref 1), some (.ref 8), some (.ref 169), some (.int (nI i))] [.int v, .int v] (br_hp n I2 L2) Q := fun v I2 L2 h => rb_law_1507 (br_t rfl (rb_law_1787 (by rw [nI_add]; exact hN I2 L2 h)))
  have hA := bp_needed (n := n) hI (I 1 (i + 1))
  refine rb_law_1489 ?_
  rw [eS]
  simp (disch := omega) only [nI_add, nI_clamp]
  repeat (first | refine ⟨vp_in_nI (by omega) (by omega), ?_⟩)
  refine hA _ _ (fun v I1 L1 h1 hM => rb_law_1498 ?_)
  rw [eS]
  simp (disch := omega) only [nI_add, nI_clamp, h1]
  repeat (first | refine ⟨vp_in_nI (by omega) (by omega), ?_⟩)
  exact hM _ _ (fun I2 L2 hV => fin v I2 L2 hV)
theorem bl_say {d n i : Nat} {xs : Nat → Int32} {Q : br_Q} {I : Nat → Nat → Int32} {L : Nat → Nat → Int64} (hI : br_Inv xs I L) (hi : i + 6 ≤ n) (hn : n ≤ 3072) (hN : ∀ I2 L2, br_Inv xs I2 L2 → br_r (d + 81) 300 18 [some (.ref 1), some (.ref 8), some (.ref 169), some (.int (nI (i + 6)))] [] (br_hp n I2 L2) Q) :
    br_r (d + 81) 300 1512 [some (.ref 1), some (.ref 8), some (.ref 169), some (.int (nI i))] [] (br_hp n I L) Q := by
  have eS : (br_S0 n 1).2 = n := rfl
  have fin : ∀ v I2 L2, br_Inv xs I2 L2 → br_r (d + 81) 300 1540 [some (.ref 1), some (.ref 8), some (.ref 169), some (.int (nI i))] [.int v, .int v] (br_hp n I2 L2) Q := fun v I2 L2 h => rb_law_1540 (br_t rfl (rb_law_1787 (by rw [nI_add]; exact hN I2 L2 h)))
  have hA := bp_say (n := n) hI (I 1 (i + 1)) (I 1 (i + 2))
  refine rb_law_1512 ?_
  rw [eS]
  simp (disch := omega) only [nI_add, nI_clamp]
  repeat (first | refine ⟨vp_in_nI (by omega) (by omega), ?_⟩)
  refine hA _ _ (fun v I1 L1 h1 hM => rb_law_1526 ?_)
  rw [eS]
  simp (disch := omega) only [nI_add, nI_clamp, h1]
  repeat (first | refine ⟨vp_in_nI (by omega) (by omega), ?_⟩)
  exact hM _ _ (fun I2 L2 hV => fin v I2 L2 hV)
theorem bl_row {d n i : Nat} {xs : Nat → Int32} {Q : br_Q} {I : Nat → Nat → Int32} {L : Nat → Nat → Int64} (hI : br_Inv xs I L) (hi : i + 6 ≤ n) (hn : n ≤ 3072) (hN : ∀ I2 L2, br_Inv xs I2 L2 → br_r (d + 81) 300 18 [some (.ref 1), some (.ref 8), some (.ref 169), some (.int (nI (i + 6)))] [] (br_hp n I2 L2) Q) :
    br_r (d + 81) 300 1545 [some (.ref 1), some (.ref 8), some (.ref 169), some (.int (nI i))] [] (br_hp n I L) Q := by
  have eS : (br_S0 n 1).2 = n := rfl
  have fin : ∀ v I2 L2, br_Inv xs I2 L2 → br_r (d + 81) 300 1583 [some (.ref 1), some (.ref 8), some (.ref 169), some (.int (nI i))] [.int v, .int v] (br_hp n I2 L2) Q := fun v I2 L2 h => rb_law_1583 (br_t rfl (rb_law_1787 (by rw [nI_add]; exact hN I2 L2 h)))
  have hA := bp_row (n := n) hI (I 1 (i + 1)) (I 1 (i + 2)) (I 1 (i + 3))
  refine rb_law_1545 ?_
  rw [eS]
  simp (disch := omega) only [nI_add, nI_clamp]
  repeat (first | refine ⟨vp_in_nI (by omega) (by omega), ?_⟩)
  refine hA _ _ (fun v I1 L1 h1 hM => rb_law_1564 ?_)
  rw [eS]
  simp (disch := omega) only [nI_add, nI_clamp, h1]
  repeat (first | refine ⟨vp_in_nI (by omega) (by omega), ?_⟩)
  exact hM _ _ (fun I2 L2 hV => fin v I2 L2 hV)
theorem bl_write {d n i : Nat} {xs : Nat → Int32} {Q : br_Q} {I : Nat → Nat → Int32} {L : Nat → Nat → Int64} (hI : br_Inv xs I L) (hi : i + 6 ≤ n) (hn : n ≤ 3072) (hN : ∀ I2 L2, br_Inv xs I2 L2 → br_r (d + 81) 300 18 [some (.ref 1), some (.ref 8), some (.ref 169), some (.int (nI (i + 6)))] [] (br_hp n I2 L2) Q) :
    br_r (d + 81) 300 1588 [some (.ref 1), some (.ref 8), some (.ref 169), some (.int (nI i))] [] (br_hp n I L) Q := by
  have eS : (br_S0 n 1).2 = n := rfl
  have fin : ∀ v I2 L2, br_Inv xs I2 L2 → br_r (d + 81) 300 1656 [some (.ref 1), some (.ref 8), some (.ref 169), some (.int (nI i))] [.long v, .long v] (br_hp n I2 L2) Q := fun v I2 L2 h => rb_law_1656 (br_t (br_cmpE.mpr rfl) (rb_law_1787 (by rw [nI_add]; exact hN I2 L2 h)))
  have hA := bp_write (n := n) hI (I 1 (i + 1)) (I 1 (i + 2)) (((I 1 (i + 3)).toInt64 <<< ((nI 32).toInt64 &&& 63)) ||| ((I 1 (i + 4)).toInt64 &&& (lN 4294967295)))
  refine rb_law_1588 ?_
  rw [eS]
  simp (disch := omega) only [nI_add, nI_clamp]
  repeat (first | refine ⟨vp_in_nI (by omega) (by omega), ?_⟩)
  refine hA _ _ (fun v I1 L1 h1 hM => rb_law_1622 ?_)
  rw [eS]
  simp (disch := omega) only [nI_add, nI_clamp, h1]
  repeat (first | refine ⟨vp_in_nI (by omega) (by omega), ?_⟩)
  exact hM _ _ (fun I2 L2 hV => fin v I2 L2 hV)
theorem bl_pour {d n i : Nat} {xs : Nat → Int32} {Q : br_Q} {I : Nat → Nat → Int32} {L : Nat → Nat → Int64} (hI : br_Inv xs I L) (hi : i + 6 ≤ n) (hn : n ≤ 3072) (hN : ∀ I2 L2, br_Inv xs I2 L2 → br_r (d + 81) 300 18 [some (.ref 1), some (.ref 8), some (.ref 169), some (.int (nI (i + 6)))] [] (br_hp n I2 L2) Q) :
    br_r (d + 81) 300 1662 [some (.ref 1), some (.ref 8), some (.ref 169), some (.int (nI i))] [] (br_hp n I L) Q := by
  have eS : (br_S0 n 1).2 = n := rfl
  have fin : ∀ v I2 L2, br_Inv xs I2 L2 → br_r (d + 81) 300 1690 [some (.ref 1), some (.ref 8), some (.ref 169), some (.int (nI i))] [.int v, .int v] (br_hp n I2 L2) Q := fun v I2 L2 h => rb_law_1690 (br_t rfl (rb_law_1787 (by rw [nI_add]; exact hN I2 L2 h)))
  have hA := bp_pour (n := n) hI (I 1 (i + 1)) (I 1 (i + 2))
  refine rb_law_1662 ?_
  rw [eS]
  simp (disch := omega) only [nI_add, nI_clamp]
  repeat (first | refine ⟨vp_in_nI (by omega) (by omega), ?_⟩)
  refine hA _ _ (fun v I1 L1 h1 hM => rb_law_1676 ?_)
  rw [eS]
  simp (disch := omega) only [nI_add, nI_clamp, h1]
  repeat (first | refine ⟨vp_in_nI (by omega) (by omega), ?_⟩)
  exact hM _ _ (fun I2 L2 hV => fin v I2 L2 hV)
theorem bl_image {d n i : Nat} {xs : Nat → Int32} {Q : br_Q} {I : Nat → Nat → Int32} {L : Nat → Nat → Int64} (hI : br_Inv xs I L) (hi : i + 6 ≤ n) (hn : n ≤ 3072) (hN : ∀ I2 L2, br_Inv xs I2 L2 → br_r (d + 81) 300 18 [some (.ref 1), some (.ref 8), some (.ref 169), some (.int (nI (i + 6)))] [] (br_hp n I2 L2) Q) :
    br_r (d + 81) 300 1695 [some (.ref 1), some (.ref 8), some (.ref 169), some (.int (nI i))] [] (br_hp n I L) Q := by
  have eS : (br_S0 n 1).2 = n := rfl
  have fin : ∀ v I2 L2, br_Inv xs I2 L2 → br_r (d + 81) 300 1713 [some (.ref 1), some (.ref 8), some (.ref 169), some (.int (nI i))] [.int v, .int v] (br_hp n I2 L2) Q := fun v I2 L2 h => rb_law_1713 (br_t rfl (rb_law_1787 (by rw [nI_add]; exact hN I2 L2 h)))
  have hA := bp_image (n := n) hI (I 1 (i + 1))
  refine rb_law_1695 ?_
  rw [eS]
  simp (disch := omega) only [nI_add, nI_clamp]
  repeat (first | refine ⟨vp_in_nI (by omega) (by omega), ?_⟩)
  refine hA _ _ (fun v I1 L1 h1 hM => rb_law_1704 ?_)
  rw [eS]
  simp (disch := omega) only [nI_add, nI_clamp, h1]
  repeat (first | refine ⟨vp_in_nI (by omega) (by omega), ?_⟩)
  exact hM _ _ (fun I2 L2 hV => fin v I2 L2 hV)
theorem bl_restore {d n i : Nat} {xs : Nat → Int32} {Q : br_Q} {I : Nat → Nat → Int32} {L : Nat → Nat → Int64} (hI : br_Inv xs I L) (hi : i + 6 ≤ n) (hn : n ≤ 3072) (hN : ∀ I2 L2, br_Inv xs I2 L2 → br_r (d + 81) 300 18 [some (.ref 1), some (.ref 8), some (.ref 169), some (.int (nI (i + 6)))] [] (br_hp n I2 L2) Q) :
    br_r (d + 81) 300 1718 [some (.ref 1), some (.ref 8), some (.ref 169), some (.int (nI i))] [] (br_hp n I L) Q := by
  have eS : (br_S0 n 1).2 = n := rfl
  have fin : ∀ v I2 L2, br_Inv xs I2 L2 → br_r (d + 81) 300 1736 [some (.ref 1), some (.ref 8), some (.ref 169), some (.int (nI i))] [.int v, .int v] (br_hp n I2 L2) Q := fun v I2 L2 h => rb_law_1736 (br_t rfl (rb_law_1787 (by rw [nI_add]; exact hN I2 L2 h)))
  have hA := bp_restore (n := n) hI (I 1 (i + 1))
  refine rb_law_1718 ?_
  rw [eS]
  simp (disch := omega) only [nI_add, nI_clamp]
  repeat (first | refine ⟨vp_in_nI (by omega) (by omega), ?_⟩)
  refine hA _ _ (fun v I1 L1 h1 hM => rb_law_1727 ?_)
  rw [eS]
  simp (disch := omega) only [nI_add, nI_clamp, h1]
  repeat (first | refine ⟨vp_in_nI (by omega) (by omega), ?_⟩)
  exact hM _ _ (fun I2 L2 hV => fin v I2 L2 hV)
theorem bl_status {d n i : Nat} {xs : Nat → Int32} {Q : br_Q} {I : Nat → Nat → Int32} {L : Nat → Nat → Int64} (hI : br_Inv xs I L) (hi : i + 6 ≤ n) (hn : n ≤ 3072) (hN : ∀ I2 L2, br_Inv xs I2 L2 → br_r (d + 81) 300 18 [some (.ref 1), some (.ref 8), some (.ref 169), some (.int (nI (i + 6)))] [] (br_hp n I2 L2) Q) :
    br_r (d + 81) 300 1741 [some (.ref 1), some (.ref 8), some (.ref 169), some (.int (nI i))] [] (br_hp n I L) Q := by
  have eS : (br_S0 n 1).2 = n := rfl
  have fin : ∀ v I2 L2, br_Inv xs I2 L2 → br_r (d + 81) 300 1759 [some (.ref 1), some (.ref 8), some (.ref 169), some (.int (nI i))] [.int v, .int v] (br_hp n I2 L2) Q := fun v I2 L2 h => rb_law_1759 (br_t rfl (rb_law_1787 (by rw [nI_add]; exact hN I2 L2 h)))
  have hA := bp_status (n := n) hI (I 1 (i + 1))
  refine rb_law_1741 ?_
  rw [eS]
  simp (disch := omega) only [nI_add, nI_clamp]
  repeat (first | refine ⟨vp_in_nI (by omega) (by omega), ?_⟩)
  refine hA _ _ (fun v I1 L1 h1 hM => rb_law_1750 ?_)
  rw [eS]
  simp (disch := omega) only [nI_add, nI_clamp, h1]
  repeat (first | refine ⟨vp_in_nI (by omega) (by omega), ?_⟩)
  exact hM _ _ (fun I2 L2 hV => fin v I2 L2 hV)
theorem bl_count {d n i : Nat} {xs : Nat → Int32} {Q : br_Q} {I : Nat → Nat → Int32} {L : Nat → Nat → Int64} (hI : br_Inv xs I L) (hi : i + 6 ≤ n) (hn : n ≤ 3072) (hN : ∀ I2 L2, br_Inv xs I2 L2 → br_r (d + 81) 300 18 [some (.ref 1), some (.ref 8), some (.ref 169), some (.int (nI (i + 6)))] [] (br_hp n I2 L2) Q) :
    br_r (d + 81) 300 1764 [some (.ref 1), some (.ref 8), some (.ref 169), some (.int (nI i))] [] (br_hp n I L) Q := by
  have eS : (br_S0 n 1).2 = n := rfl
  have fin : ∀ v I2 L2, br_Inv xs I2 L2 → br_r (d + 81) 300 1782 [some (.ref 1), some (.ref 8), some (.ref 169), some (.int (nI i))] [.int v, .int v] (br_hp n I2 L2) Q := fun v I2 L2 h => rb_law_1782 (br_t rfl (rb_law_1787 (by rw [nI_add]; exact hN I2 L2 h)))
  have hA := bp_count (n := n) hI (I 1 (i + 1))
  refine rb_law_1764 ?_
  rw [eS]
  simp (disch := omega) only [nI_add, nI_clamp]
  repeat (first | refine ⟨vp_in_nI (by omega) (by omega), ?_⟩)
  refine hA _ _ (fun v I1 L1 h1 hM => rb_law_1773 ?_)
  rw [eS]
  simp (disch := omega) only [nI_add, nI_clamp, h1]
  repeat (first | refine ⟨vp_in_nI (by omega) (by omega), ?_⟩)
  exact hM _ _ (fun I2 L2 hV => fin v I2 L2 hV)
theorem bl_loop {d n : Nat} {xs : Nat → Int32} (hn : n ≤ 3072) : ∀ (k i : Nat) (I : Nat → Nat → Int32) (L : Nat → Nat → Int64), i + 6 * k ≤ n → n < i + 6 * k + 6 → br_Inv xs I L →
    br_r (d + 81) 300 18 [some (.ref 1), some (.ref 8), some (.ref 169), some (.int (nI i))] [] (br_hp n I L) (fun v _ => v = some (.int (nI 1))) := by
  have eS : (br_S0 n 1) = (1, n) := rfl
  intro k
  induction k with
  | zero =>
    intro i I L h1 h2 hI
    refine rb_law_18 ?_
    rw [eS]
    refine ⟨rfl, br_t ?_ rfl⟩
    have e : (Int32.ofNat n - nI 6).toInt = (n : Int) - 6 := pk_sub_toInt (a := n) (b := 6) (by omega) (by omega)
    rw [br_ltT, e, nI_toInt (by omega)]
    omega
  | succ k ih =>
    intro i I L h1 h2 hI
    have hN : ∀ I2 L2, br_Inv xs I2 L2 → br_r (d + 81) 300 18 [some (.ref 1), some (.ref 8), some (.ref 169), some (.int (nI (i + 6)))] [] (br_hp n I2 L2) (fun v _ => v = some (.int (nI 1))) := fun I2 L2 h => ih (i + 6) I2 L2 (by omega) (by omega) h
    refine rb_law_18 ?_
    rw [eS]
    refine ⟨rfl, br_f ?_ ⟨vp_in_nI (by omega) (by omega), ?_⟩⟩
    · have e : (Int32.ofNat n - nI 6).toInt = (n : Int) - 6 := pk_sub_toInt (a := n) (b := 6) (by omega) (by omega)
      rw [br_ltT, e, nI_toInt (by omega)]
      omega
    refine ⟨fun _ => bl_room hI (by omega) hn hN, fun _ => ⟨fun _ => bl_child hI (by omega) hn hN, fun _ => ⟨fun _ => bl_word hI (by omega) hn hN, fun _ => ⟨fun _ => bl_gone hI (by omega) hn hN, fun _ => ⟨fun _ => bl_of hI (by omega) hn hN, fun _ => ⟨fun _ => bl_given hI (by omega) hn hN, fun _ => ⟨fun _ => bl_feed hI (by omega) hn hN, fun _ => ⟨fun _ => bl_text hI (by omega) hn hN, fun _ => ⟨fun _ => bl_fault hI (by omega) hn hN, fun _ => ⟨fun _ => bl_year hI (by omega) hn hN, fun _ => ⟨fun _ => bl_give hI (by omega) hn hN, fun _ => ⟨fun _ => bl_point hI (by omega) hn hN, fun _ => ⟨fun _ => bl_tell hI (by omega) hn hN, fun _ => ⟨fun _ => bl_deal hI (by omega) hn hN, fun _ => ⟨fun _ => bl_read hI (by omega) hn hN, fun _ => ⟨fun _ => bl_grew hI (by omega) hn hN, fun _ => ⟨fun _ => bl_effect hI (by omega) hn hN, fun _ => ⟨fun _ => bl_sure hI (by omega) hn hN, fun _ => ⟨fun _ => bl_upper hI (by omega) hn hN, fun _ => ⟨fun _ => bl_lower hI (by omega) hn hN, fun _ => ⟨fun _ => bl_looks hI (by omega) hn hN, fun _ => ⟨fun _ => bl_paid hI (by omega) hn hN, fun _ => ⟨fun _ => bl_mean hI (by omega) hn hN, fun _ => ⟨fun _ => bl_film hI (by omega) hn hN, fun _ => ⟨fun _ => bl_hair hI (by omega) hn hN, fun _ => ⟨fun _ => bl_carried hI (by omega) hn hN, fun _ => ⟨fun _ => bl_enough hI (by omega) hn hN, fun _ => ⟨fun _ => bl_mark hI (by omega) hn hN, fun _ => ⟨fun _ => bl_same hI (by omega) hn hN, fun _ => ⟨fun _ => bl_trial hI (by omega) hn hN, fun _ => ⟨fun _ => bl_curve hI (by omega) hn hN, fun _ => ⟨fun _ => bl_edge hI (by omega) hn hN, fun _ => ⟨fun _ => bl_keep hI (by omega) hn hN, fun _ => ⟨fun _ => bl_fits hI (by omega) hn hN, fun _ => ⟨fun _ => bl_likely hI (by omega) hn hN, fun _ => ⟨fun _ => bl_needed hI (by omega) hn hN, fun _ => ⟨fun _ => bl_say hI (by omega) hn hN, fun _ => ⟨fun _ => bl_row hI (by omega) hn hN, fun _ => ⟨fun _ => bl_write hI (by omega) hn hN, fun _ => ⟨fun _ => bl_pour hI (by omega) hn hN, fun _ => ⟨fun _ => bl_image hI (by omega) hn hN, fun _ => ⟨fun _ => bl_restore hI (by omega) hn hN, fun _ => ⟨fun _ => bl_status hI (by omega) hn hN, fun _ => ⟨fun _ => bl_count hI (by omega) hn hN, fun _ => rb_law_1787 (by rw [nI_add]; exact hN I L hI)⟩⟩⟩⟩⟩⟩⟩⟩⟩⟩⟩⟩⟩⟩⟩⟩⟩⟩⟩⟩⟩⟩⟩⟩⟩⟩⟩⟩⟩⟩⟩⟩⟩⟩⟩⟩⟩⟩⟩⟩⟩⟩⟩⟩
