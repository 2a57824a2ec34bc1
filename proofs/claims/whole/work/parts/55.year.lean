set_option maxRecDepth 100000
set_option maxHeartbeats 4000000
def bm_kept (x : Int32) (h : Nat) : Int32 := br_max (nI 0) (br_min (nI h) x)
section
variable {d n : Nat} {Q : br_Q} {I : Nat → Nat → Int32} {L : Nat → Nat → Int64}
theorem rs_kept {x : Int32} {h : Nat} (hh : h < 2 ^ 31) (H : Q (some (.int (bm_kept x h))) (br_hp n I L)) : br_r d 224 0 [some (.int x), some (.int (nI 0)), some (.int (nI h))] [] (br_hp n I L) Q := by
  have z0 : (nI 0).toInt = 0 := nI_toInt (by omega)
  have zh : (nI h).toInt = h := nI_toInt hh
  have key : ∀ y, y.toInt = (bm_kept x h).toInt → Q (some (.int y)) (br_hp n I L) := fun y hy => by rw [Int32.toInt_inj.mp hy]; exact H
  have e : (bm_kept x h).toInt = max 0 (min (h : Int) x.toInt) := by unfold bm_kept; rw [br_maxT, br_minT, z0, zh]
  refine rb_M_kept_0 ⟨fun h1 => ⟨fun h2 => key _ ?_, fun h2 => key _ ?_⟩, fun h1 => key _ ?_⟩
  · rw [br_leT] at h1 h2; omega
  · rw [br_leT] at h1 h2; omega
  · rw [br_leT] at h1; omega
end
theorem bm_keptT {x : Int32} {h : Nat} (hh : h < 2 ^ 31) : 0 ≤ (bm_kept x h).toInt ∧ (bm_kept x h).toInt ≤ h := by
  have z0 : (nI 0).toInt = 0 := nI_toInt (by omega)
  have zh : (nI h).toInt = h := nI_toInt hh
  unfold bm_kept
  rw [br_maxT, br_minT, z0, zh]
  omega
/-- a gift behind a year -/
def bm_yr (g : Nat → Int32) (c : Nat) : Int32 := if g (827 + c) = nI 0 then bm_kept (g (747 + c) + g 13 + bm_grows g 0 (g (667 + c)).toNatClampNeg (g (787 + c)).toNatClampNeg (g 1113)) 400 else g (747 + c)
section
variable {n : Nat} {xs : Nat → Int32} {I : Nat → Nat → Int32} {L : Nat → Nat → Int64}
theorem br_kid_c {c r w : Nat} {I' : Nat → Nat → Int32} (h : br_kid c r w I) (e1 : I' 12 = I 12) (e2 : I' 15 = I 15) (e3 : I' 10 = I 10) (e4 : I' 11 = I 11) (e5 : ∀ k, 630 ≤ k → k < 666 → I' 171 k = I 171 k) : br_kid c r w I' := by
  obtain ⟨h1, h2, h3, h4, h5, h6, h7, h8⟩ := h
  refine ⟨h1, h2, h3, by rw [e1]; exact h4, by rw [e2]; exact h5, by rw [e3, e5 _ (by omega) (by omega)]; exact h6, by rw [e4, e5 _ (by omega) (by omega)]; exact h7, by rw [e5 _ (by omega) (by omega)]; exact h8⟩
theorem bp_year (hI : br_Inv xs I L) : br_pair n xs 79 223 [some (.ref 8)] [some (.ref 169), none] I L := by
  obtain ⟨N, R, hN, hR, eN, eR, a3, a4, a5⟩ := hI.1.2.1
  rw [Nat.zero_add] at eN eR
  have cN : I 9 8 = nI N := (bi_children hI.1.1).trans eN
  have cR : I 9 2 = nI R := (bi_rooms hI.1.1).trans eR
  have by_ := bb_years hI.1.1
  rw [Nat.zero_add] at by_
  obtain ⟨y, ey, hy⟩ := br_nN by_.1
  have cY : I 9 9 = nI y := (bi_years hI.1.1).trans ey
  have hlw := br_lwK (n := n)
  have hlr := br_lrI hI
  by_cases h6 : y < 6
  · have hgone : ∀ c, c < N → I 171 (827 + c) = nI 0 ∨ I 171 (827 + c) = nI 1 := by
      intro c hc
      have b := bb_gone hI.1.1 (j := c) (by omega)
      rw [Nat.zero_add] at b
      obtain ⟨f, ef, hf⟩ := br_nN b.1
      rcases (by omega : f = 0 ∨ f = 1) with rfl | rfl
      · exact Or.inl ef
      · exact Or.inr ef
    have hF : ∀ c, c < N → 0 ≤ (bm_yr (I 171) c).toInt ∧ (bm_yr (I 171) c).toInt ≤ 400 := by
      intro c hc
      unfold bm_yr
      split
      · exact bm_keptT (by omega)
      · have b := bb_gift hI.1.1 (j := c) (by omega)
        rw [Nat.zero_add] at b
        exact b
    have hy1 : (nI (y + 1)).toInt = (y : Int) + 1 := by rw [nI_toInt (by omega)]; omega
    refine br_pc ⟨nI (y + 1), br_u (br_row I 14 0 (bm_yr (I 171)) N) 9 9 (nI (y + 1)), L, br_u (br_row (br_u (br_u (br_row I 14 0 (bm_yr (I 171)) N) 9 9 (nI (y + 1))) 169 0 (nI 0)) 171 747 (bm_yr (I 171)) N) 171 1113 (nI (y + 1)), L, fun d Q H => ?_, fun d Q H => ?_, fun j => ?_, br_Inv_w hI ⟨?_, ?_, ?_⟩ ?_⟩
    · have loop : ∀ k c (z2 : Option Value), c + k = N → br_r (d + 79) 80 2 [some (.ref 9), some (.int (nI c)), z2] [] (br_hp n (br_row I 14 0 (bm_yr (I 171)) c) L) (fun v h => br_r (d + 80) 79 25 [some (.ref 8)] (v.toList ++ []) (br_bk h) Q) := by
        intro k
        induction k with
        | zero =>
          intro c z2 hc
          have : c = N := by omega
          subst this
          refine rb_World_passYear_2 (br_t (by rw [br_row_n (by omega), cN]; exact nI_le (Nat.le_refl _) (by omega)) (rb_A_year_25 ?_))
          rw [br_u_s, br_row_n (by omega), cY, nI_add]
          exact H
        | succ k ih =>
          intro c z2 hc
          have h1 := ih (c + 1)
          obtain ⟨r, w, hr, hw, er, ew, kid⟩ := br_kidI hI hN eN (c := c) (by omega)
          have kid' : br_kid c r w (br_row I 14 0 (bm_yr (I 171)) c) := br_kid_c kid (br_row_q (by omega)) (br_row_q (by omega)) (br_row_q (by omega)) (br_row_q (by omega)) (fun k _ _ => br_row_n (by omega))
          have hlr' : br_lr2 25 0 (br_row I 14 0 (bm_yr (I 171)) c) := ⟨fun k hk => by rw [br_row_n (by omega), br_row_n (by omega)]; exact hlr.1 k hk, by rw [br_row_n (by omega)]; exact hlr.2⟩
          have m4 := bi_gone hI.1.1 (j := c) (by omega)
          have m2 := bi_gift hI.1.1 (j := c) (by omega)
          have ml := hlr.1 12 (by omega)
          refine rb_World_passYear_2 (br_f (by rw [br_row_n (by omega), cN]; exact nI_ge (by omega) (by omega)) ⟨vp_in_nI (by omega) (by omega), ?_⟩)
          rw [nI_clamp (by omega), br_row_n (p := 14) (q := 16) (by omega), m4, nI_add]
          have eF : br_row I 14 0 (bm_yr (I 171)) (c + 1) = br_u (br_row I 14 0 (bm_yr (I 171)) c) 14 c (bm_yr (I 171) c) := by rw [br_row_s, Nat.zero_add]
          have e14 : br_row I 14 0 (bm_yr (I 171)) c 14 c = I 171 (747 + c) := by rw [br_row_n (by omega)]; exact m2
          rcases hgone c (by omega) with h | h
          · refine br_f (fun z => z h) ⟨vp_in_nI (by omega) (by omega), ?_⟩
            refine rs_W_growthOf hlw hlr' kid' (rb_World_passYear_49 (rs_min (rb_World_passYear_64 (rs_max (rb_World_passYear_67 ?_)))))
            rw [nI_clamp (by omega), nI_add, e14, br_row_n (p := 14) (q := 26) (by omega), ml, br_row_q (p := 14) (q := 171) (by omega), br_row_n (p := 14) (q := 9) (by omega), cY]
            have eb : bm_yr (I 171) c = br_max (nI 0) (br_min (nI 400) (I 171 (747 + c) + I 171 (0 + (1 + 12)) + bm_grows (I 171) 0 r w (nI y))) := by
              unfold bm_yr
              rw [if_pos h, er, ew, nI_clamp (by omega), nI_clamp (by omega), ey]
              rfl
            rw [← eb, ← eF]
            exact ⟨vp_in_nI (by omega) (by omega), h1 _ (by omega)⟩
          · refine br_t (by rw [h]; exact br_10) ?_
            have ei : br_row I 14 0 (bm_yr (I 171)) (c + 1) = br_row I 14 0 (bm_yr (I 171)) c := by
              rw [eF, br_u_id]
              rw [e14]; unfold bm_yr
              rw [if_neg (by rw [h]; exact br_10)]
            rw [← ei]
            exact h1 _ (by omega)
      have l0 := loop N 0 none (by omega)
      rw [br_row_0] at l0
      exact rb_A_year_0 (br_t (by rw [cY]; exact nI_lt h6 (by omega)) (rb_World_passYear_0 l0))
    · generalize hJ : br_u (br_u (br_row I 14 0 (bm_yr (I 171)) N) 9 9 (nI (y + 1))) 169 0 (nI 0) = J at H
      have jq : J 171 = I 171 := by rw [← hJ, br_u_q (by omega), br_u_q (by omega), br_row_q (by omega)]
      have loop : ∀ k c, c + k = N → br_r (d + 80) 223 27 [some (.ref 169), some (.int (nI c))] [] (br_hp n (br_row J 171 747 (bm_yr (I 171)) c) L) Q := by
        intro k
        induction k with
        | zero =>
          intro c hc
          have : c = N := by omega
          subst this
          refine rb_M_year_27 (br_t (by rw [br_row_n (by omega), jq, eN]; exact nI_le (Nat.le_refl _) (by omega)) ?_)
          rw [br_u_s, br_row_n (by omega), jq, ey, nI_add]
          exact H
        | succ k ih =>
          intro c hc
          have h1 := ih (c + 1) (by omega)
          obtain ⟨r, w, hr, hw, er, ew, kid⟩ := br_kidI hI hN eN (c := c) (by omega)
          have q : ∀ j, ¬ (747 ≤ j ∧ j < 747 + c) → br_row J 171 747 (bm_yr (I 171)) c 171 j = I 171 j := fun j hj => by rw [br_row_n (by omega), jq]
          have eF : br_row J 171 747 (bm_yr (I 171)) (c + 1) = br_u (br_row J 171 747 (bm_yr (I 171)) c) 171 (747 + c) (bm_yr (I 171) c) := br_row_s
          refine rb_M_year_27 (br_f (by rw [q _ (by omega), eN]; exact nI_ge (by omega) (by omega)) ?_)
          rw [nI_add, nI_clamp (by omega), q (827 + c) (by omega), nI_add, nI_clamp (by omega), q (747 + c) (by omega), q 13 (by omega), q 1113 (by omega), nI_add]
          refine ⟨vp_in_nI (by omega) (by omega), ?_⟩
          rcases hgone c (by omega) with h | h
          · refine br_t (by rw [h]; exact fun z => br_10 z.symm) ⟨vp_in_nI (by omega) (by omega), ?_⟩
            refine rs_M_growsOf (g := br_row J 171 747 (bm_yr (I 171)) c 171) rfl (by omega) (by omega) (by rw [q _ (by omega)]; exact er) hr (by rw [q _ (by omega)]; exact ew) hw (rb_M_year_97 (rs_kept (by omega) (rb_M_year_105 ?_)))
            have eg : bm_grows (br_row J 171 747 (bm_yr (I 171)) c 171) 0 r w (I 171 1113) = bm_grows (I 171) 0 r w (I 171 1113) := by
              unfold bm_grows bm_grow1 bm_hold bm_full
              simp (disch := omega) only [q]
            rw [eg, nI_clamp (by omega), nI_add]
            have eb : bm_yr (I 171) c = bm_kept (I 171 (747 + c) + I 171 13 + bm_grows (I 171) 0 r w (I 171 1113)) 400 := by
              unfold bm_yr
              rw [if_pos h, er, ew, nI_clamp (by omega), nI_clamp (by omega)]
            rw [← eb, ← eF]
            exact ⟨vp_in_nI (by omega) (by omega), h1⟩
          · refine br_f (fun z => z h) ?_
            have ei : br_row J 171 747 (bm_yr (I 171)) (c + 1) = br_row J 171 747 (bm_yr (I 171)) c := by
              rw [eF, br_u_id]
              rw [q _ (by omega)]; unfold bm_yr
              rw [if_neg (by rw [h]; exact br_10)]
            rw [← ei]
            exact h1
      have l0 := loop N 0 (by omega)
      rw [br_row_0, ← hJ] at l0
      refine rb_M_year_0 (br_t ?_ l0)
      have : br_u (br_u (br_row I 14 0 (bm_yr (I 171)) N) 9 9 (nI (y + 1))) 169 0 (nI 0) 171 1113 = nI y := by rw [hJ, jq]; exact ey
      rw [this, nI_eq (by omega) (by omega)]
      omega
    · rw [br_u_n (by omega), br_row_n (by omega)]
    · have c1 := br_cel_r hI.1.1 (5, 0, 40, 747, 0, 400) (by decide +kernel) (F := bm_yr (I 171)) (p := 14) (b := 0) (k := 747) rfl rfl rfl N hN hF
      have c2 := br_cel_p c1 (0, 9, 1, 1113, 0, 6) (by decide +kernel) 0 (by decide) (x := nI (y + 1)) (by simp only [hy1]; omega) (by simp only [hy1]; omega) (p := 9) (j := 9) (k := 1113) rfl rfl rfl
      exact br_cel_c c2 (fun p j h1 h2 h3 h4 => by rw [br_u_n (by omega), br_row_n (by omega), br_u_n (by omega)]) (fun k _ _ => by simp (disch := omega) only [br_u_v, br_u_q, br_row_v, br_row_q])
    · have q : ∀ j, ¬ (747 ≤ j ∧ j < 787) → j ≠ 1113 → br_u (br_row (br_u (br_u (br_row I 14 0 (bm_yr (I 171)) N) 9 9 (nI (y + 1))) 169 0 (nI 0)) 171 747 (bm_yr (I 171)) N) 171 1113 (nI (y + 1)) 171 j = I 171 j := fun j h1 h2 => by
        rw [br_u_n (by omega), br_row_n (by omega), br_u_n (by omega), br_u_n (by omega), br_row_n (by omega)]
      refine ⟨N, R, hN, hR, ?_, ?_, fun c hc => ?_, fun c h6 h7 => ?_, fun i hi => ?_⟩
      · rw [q _ (by omega) (by omega)]; exact eN
      · rw [q _ (by omega) (by omega)]; exact eR
      · rw [q _ (by omega) (by omega)]; exact a3 c hc
      · rw [q _ (by omega) (by omega), q _ (by omega) (by omega)]
        refine ⟨(a4 c h6 h7).1, (a4 c h6 h7).2.1, fun t ht => ?_⟩
        rw [q _ (by omega) (by omega)]; exact (a4 c h6 h7).2.2 t ht
      · rw [q _ (by omega) (by omega)]; exact a5 i hi
    · refine br_ru_c hI.1.2.2 ?_ (fun j => ?_) (fun k h1 h2 => ?_)
      · rw [br_u_n (by omega), br_row_n (by omega), br_u_n (by omega), br_u_n (by omega), br_row_n (by omega)]
      · rw [br_u_n (by omega), br_row_n (by omega), br_u_n (by omega), br_u_n (by omega), br_row_n (by omega)]
      · rw [br_u_n (by omega), br_row_n (by omega), br_u_n (by omega), br_u_n (by omega), br_row_n (by omega)]
    · intro p j hp
      unfold br_kO at hp
      rw [br_u_n (by omega), br_row_n (by omega), br_u_n (by omega), br_u_n (by omega), br_row_n (by omega)]
  · refine br_pair_no hI (k := 5) (by omega) (v := -(nI 5)) (fun d Q H => ?_) (fun d Q H => ?_)
    · repeat (first
        | exact H
        | (refine br_t ?_ ?_; (focus ((first | rfl | assumption | exact fun z => z rfl | omega | (simp (disch := omega) only [not_true_eq_false, not_false_eq_true, br_u_s, br_u_n, br_u_q, nI_eq, nI_clamp, nI_add, pk_mul, br_R17, br_S17, pk_sub_toInt, br_ltT, br_leT, br_inT, br_nT, br_negT, br_b_0, br_b_1, Int32.toInt_toInt64, pk_lT, br_lnegT, cY] <;> omega)); done)))
        | (refine br_f ?_ ?_; (focus ((first | rfl | assumption | exact fun z => z rfl | omega | (simp (disch := omega) only [not_true_eq_false, not_false_eq_true, br_u_s, br_u_n, br_u_q, nI_eq, nI_clamp, nI_add, pk_mul, br_R17, br_S17, pk_sub_toInt, br_ltT, br_leT, br_inT, br_nT, br_negT, br_b_0, br_b_1, Int32.toInt_toInt64, pk_lT, br_lnegT, cY] <;> omega)); done)))
        | refine rb_A_year_0 ?_
        | refine rb_A_year_17 ?_
        | refine rb_A_year_25 ?_
        | (refine rs_out_F ?_ ?_; (focus ((first | rfl | assumption | exact fun z => z rfl | omega | (simp (disch := omega) only [not_true_eq_false, not_false_eq_true, br_u_s, br_u_n, br_u_q, nI_eq, nI_clamp, nI_add, pk_mul, br_R17, br_S17, pk_sub_toInt, br_ltT, br_leT, br_inT, br_nT, br_negT, br_b_0, br_b_1, Int32.toInt_toInt64, pk_lT, br_lnegT, cY] <;> omega)); done)))
        | (refine rs_out_T ?_ ?_; (focus ((first | rfl | assumption | exact fun z => z rfl | omega | (simp (disch := omega) only [not_true_eq_false, not_false_eq_true, br_u_s, br_u_n, br_u_q, nI_eq, nI_clamp, nI_add, pk_mul, br_R17, br_S17, pk_sub_toInt, br_ltT, br_leT, br_inT, br_nT, br_negT, br_b_0, br_b_1, Int32.toInt_toInt64, pk_lT, br_lnegT, cY] <;> omega)); done)))
        | (refine rs_noChild_F (N := N) ?_ ?_ ?_ ?_; (focus ((first | rfl | assumption | exact fun z => z rfl | omega | (simp (disch := omega) only [not_true_eq_false, not_false_eq_true, br_u_s, br_u_n, br_u_q, nI_eq, nI_clamp, nI_add, pk_mul, br_R17, br_S17, pk_sub_toInt, br_ltT, br_leT, br_inT, br_nT, br_negT, br_b_0, br_b_1, Int32.toInt_toInt64, pk_lT, br_lnegT, cY] <;> omega)); done)); (focus ((first | rfl | assumption | exact fun z => z rfl | omega | (simp (disch := omega) only [not_true_eq_false, not_false_eq_true, br_u_s, br_u_n, br_u_q, nI_eq, nI_clamp, nI_add, pk_mul, br_R17, br_S17, pk_sub_toInt, br_ltT, br_leT, br_inT, br_nT, br_negT, br_b_0, br_b_1, Int32.toInt_toInt64, pk_lT, br_lnegT, cY] <;> omega)); done)); (focus ((first | rfl | assumption | exact fun z => z rfl | omega | (simp (disch := omega) only [not_true_eq_false, not_false_eq_true, br_u_s, br_u_n, br_u_q, nI_eq, nI_clamp, nI_add, pk_mul, br_R17, br_S17, pk_sub_toInt, br_ltT, br_leT, br_inT, br_nT, br_negT, br_b_0, br_b_1, Int32.toInt_toInt64, pk_lT, br_lnegT, cY] <;> omega)); done)))
        | (refine rs_noChild_T (N := N) ?_ ?_ ?_ ?_; (focus ((first | rfl | assumption | exact fun z => z rfl | omega | (simp (disch := omega) only [not_true_eq_false, not_false_eq_true, br_u_s, br_u_n, br_u_q, nI_eq, nI_clamp, nI_add, pk_mul, br_R17, br_S17, pk_sub_toInt, br_ltT, br_leT, br_inT, br_nT, br_negT, br_b_0, br_b_1, Int32.toInt_toInt64, pk_lT, br_lnegT, cY] <;> omega)); done)); (focus ((first | rfl | assumption | exact fun z => z rfl | omega | (simp (disch := omega) only [not_true_eq_false, not_false_eq_true, br_u_s, br_u_n, br_u_q, nI_eq, nI_clamp, nI_add, pk_mul, br_R17, br_S17, pk_sub_toInt, br_ltT, br_leT, br_inT, br_nT, br_negT, br_b_0, br_b_1, Int32.toInt_toInt64, pk_lT, br_lnegT, cY] <;> omega)); done)); (focus ((first | rfl | assumption | exact fun z => z rfl | omega | (simp (disch := omega) only [not_true_eq_false, not_false_eq_true, br_u_s, br_u_n, br_u_q, nI_eq, nI_clamp, nI_add, pk_mul, br_R17, br_S17, pk_sub_toInt, br_ltT, br_leT, br_inT, br_nT, br_negT, br_b_0, br_b_1, Int32.toInt_toInt64, pk_lT, br_lnegT, cY] <;> omega)); done)))
        | (refine rs_noTest_F ?_ ?_; (focus ((first | rfl | assumption | exact fun z => z rfl | omega | (simp (disch := omega) only [not_true_eq_false, not_false_eq_true, br_u_s, br_u_n, br_u_q, nI_eq, nI_clamp, nI_add, pk_mul, br_R17, br_S17, pk_sub_toInt, br_ltT, br_leT, br_inT, br_nT, br_negT, br_b_0, br_b_1, Int32.toInt_toInt64, pk_lT, br_lnegT, cY] <;> omega)); done)))
        | (refine rs_noTest_T ?_ ?_; (focus ((first | rfl | assumption | exact fun z => z rfl | omega | (simp (disch := omega) only [not_true_eq_false, not_false_eq_true, br_u_s, br_u_n, br_u_q, nI_eq, nI_clamp, nI_add, pk_mul, br_R17, br_S17, pk_sub_toInt, br_ltT, br_leT, br_inT, br_nT, br_negT, br_b_0, br_b_1, Int32.toInt_toInt64, pk_lT, br_lnegT, cY] <;> omega)); done)))
        | (refine rs_refuse ?_ ?_; (focus ((first | rfl | assumption | exact fun z => z rfl | omega | (simp (disch := omega) only [not_true_eq_false, not_false_eq_true, br_u_s, br_u_n, br_u_q, nI_eq, nI_clamp, nI_add, pk_mul, br_R17, br_S17, pk_sub_toInt, br_ltT, br_leT, br_inT, br_nT, br_negT, br_b_0, br_b_1, Int32.toInt_toInt64, pk_lT, br_lnegT, cY] <;> omega)); done)))
        | (refine And.intro ?_ ?_; (focus ((first | rfl | assumption | exact fun z => z rfl | omega | (simp (disch := omega) only [not_true_eq_false, not_false_eq_true, br_u_s, br_u_n, br_u_q, nI_eq, nI_clamp, nI_add, pk_mul, br_R17, br_S17, pk_sub_toInt, br_ltT, br_leT, br_inT, br_nT, br_negT, br_b_0, br_b_1, Int32.toInt_toInt64, pk_lT, br_lnegT, cY] <;> omega)); done))))
    · repeat (first
        | exact H
        | (refine br_t ?_ ?_; (focus ((first | rfl | assumption | exact fun z => z rfl | omega | (simp (disch := omega) only [not_true_eq_false, not_false_eq_true, br_u_s, br_u_n, br_u_q, nI_eq, nI_clamp, nI_add, pk_mul, br_R17, br_S17, pk_sub_toInt, br_ltT, br_leT, br_inT, br_nT, br_negT, br_b_0, br_b_1, Int32.toInt_toInt64, pk_lT, br_lnegT, ey] <;> omega)); done)))
        | (refine br_f ?_ ?_; (focus ((first | rfl | assumption | exact fun z => z rfl | omega | (simp (disch := omega) only [not_true_eq_false, not_false_eq_true, br_u_s, br_u_n, br_u_q, nI_eq, nI_clamp, nI_add, pk_mul, br_R17, br_S17, pk_sub_toInt, br_ltT, br_leT, br_inT, br_nT, br_negT, br_b_0, br_b_1, Int32.toInt_toInt64, pk_lT, br_lnegT, ey] <;> omega)); done)))
        | refine rb_M_year_0 ?_
        | refine rb_M_year_24 ?_
        | refine rb_M_year_27 ?_
        | refine rb_M_year_97 ?_
        | refine rb_M_year_105 ?_
        | (refine rs_wi_T ?_ ?_; (focus ((first | rfl | assumption | exact fun z => z rfl | omega | (simp (disch := omega) only [not_true_eq_false, not_false_eq_true, br_u_s, br_u_n, br_u_q, nI_eq, nI_clamp, nI_add, pk_mul, br_R17, br_S17, pk_sub_toInt, br_ltT, br_leT, br_inT, br_nT, br_negT, br_b_0, br_b_1, Int32.toInt_toInt64, pk_lT, br_lnegT, ey] <;> omega)); done)))
        | (refine rs_wi_F ?_ ?_; (focus ((first | rfl | assumption | exact fun z => z rfl | omega | (simp (disch := omega) only [not_true_eq_false, not_false_eq_true, br_u_s, br_u_n, br_u_q, nI_eq, nI_clamp, nI_add, pk_mul, br_R17, br_S17, pk_sub_toInt, br_ltT, br_leT, br_inT, br_nT, br_negT, br_b_0, br_b_1, Int32.toInt_toInt64, pk_lT, br_lnegT, ey] <;> omega)); done)))
        | (refine rs_isChild_T (N := N) ?_ ?_ ?_ ?_; (focus ((first | rfl | assumption | exact fun z => z rfl | omega | (simp (disch := omega) only [not_true_eq_false, not_false_eq_true, br_u_s, br_u_n, br_u_q, nI_eq, nI_clamp, nI_add, pk_mul, br_R17, br_S17, pk_sub_toInt, br_ltT, br_leT, br_inT, br_nT, br_negT, br_b_0, br_b_1, Int32.toInt_toInt64, pk_lT, br_lnegT, ey] <;> omega)); done)); (focus ((first | rfl | assumption | exact fun z => z rfl | omega | (simp (disch := omega) only [not_true_eq_false, not_false_eq_true, br_u_s, br_u_n, br_u_q, nI_eq, nI_clamp, nI_add, pk_mul, br_R17, br_S17, pk_sub_toInt, br_ltT, br_leT, br_inT, br_nT, br_negT, br_b_0, br_b_1, Int32.toInt_toInt64, pk_lT, br_lnegT, ey] <;> omega)); done)); (focus ((first | rfl | assumption | exact fun z => z rfl | omega | (simp (disch := omega) only [not_true_eq_false, not_false_eq_true, br_u_s, br_u_n, br_u_q, nI_eq, nI_clamp, nI_add, pk_mul, br_R17, br_S17, pk_sub_toInt, br_ltT, br_leT, br_inT, br_nT, br_negT, br_b_0, br_b_1, Int32.toInt_toInt64, pk_lT, br_lnegT, ey] <;> omega)); done)))
        | (refine rs_isChild_F (N := N) ?_ ?_ ?_ ?_; (focus ((first | rfl | assumption | exact fun z => z rfl | omega | (simp (disch := omega) only [not_true_eq_false, not_false_eq_true, br_u_s, br_u_n, br_u_q, nI_eq, nI_clamp, nI_add, pk_mul, br_R17, br_S17, pk_sub_toInt, br_ltT, br_leT, br_inT, br_nT, br_negT, br_b_0, br_b_1, Int32.toInt_toInt64, pk_lT, br_lnegT, ey] <;> omega)); done)); (focus ((first | rfl | assumption | exact fun z => z rfl | omega | (simp (disch := omega) only [not_true_eq_false, not_false_eq_true, br_u_s, br_u_n, br_u_q, nI_eq, nI_clamp, nI_add, pk_mul, br_R17, br_S17, pk_sub_toInt, br_ltT, br_leT, br_inT, br_nT, br_negT, br_b_0, br_b_1, Int32.toInt_toInt64, pk_lT, br_lnegT, ey] <;> omega)); done)); (focus ((first | rfl | assumption | exact fun z => z rfl | omega | (simp (disch := omega) only [not_true_eq_false, not_false_eq_true, br_u_s, br_u_n, br_u_q, nI_eq, nI_clamp, nI_add, pk_mul, br_R17, br_S17, pk_sub_toInt, br_ltT, br_leT, br_inT, br_nT, br_negT, br_b_0, br_b_1, Int32.toInt_toInt64, pk_lT, br_lnegT, ey] <;> omega)); done)))
        | (refine rs_isTest_T ?_ ?_; (focus ((first | rfl | assumption | exact fun z => z rfl | omega | (simp (disch := omega) only [not_true_eq_false, not_false_eq_true, br_u_s, br_u_n, br_u_q, nI_eq, nI_clamp, nI_add, pk_mul, br_R17, br_S17, pk_sub_toInt, br_ltT, br_leT, br_inT, br_nT, br_negT, br_b_0, br_b_1, Int32.toInt_toInt64, pk_lT, br_lnegT, ey] <;> omega)); done)))
        | (refine rs_isTest_F ?_ ?_; (focus ((first | rfl | assumption | exact fun z => z rfl | omega | (simp (disch := omega) only [not_true_eq_false, not_false_eq_true, br_u_s, br_u_n, br_u_q, nI_eq, nI_clamp, nI_add, pk_mul, br_R17, br_S17, pk_sub_toInt, br_ltT, br_leT, br_inT, br_nT, br_negT, br_b_0, br_b_1, Int32.toInt_toInt64, pk_lT, br_lnegT, ey] <;> omega)); done)))
        | (refine rs_no ?_ ?_; (focus ((first | rfl | assumption | exact fun z => z rfl | omega | (simp (disch := omega) only [not_true_eq_false, not_false_eq_true, br_u_s, br_u_n, br_u_q, nI_eq, nI_clamp, nI_add, pk_mul, br_R17, br_S17, pk_sub_toInt, br_ltT, br_leT, br_inT, br_nT, br_negT, br_b_0, br_b_1, Int32.toInt_toInt64, pk_lT, br_lnegT, ey] <;> omega)); done)))
        | (refine rs_pointOf ?_ ?_ ?_; (focus ((first | rfl | assumption | exact fun z => z rfl | omega | (simp (disch := omega) only [not_true_eq_false, not_false_eq_true, br_u_s, br_u_n, br_u_q, nI_eq, nI_clamp, nI_add, pk_mul, br_R17, br_S17, pk_sub_toInt, br_ltT, br_leT, br_inT, br_nT, br_negT, br_b_0, br_b_1, Int32.toInt_toInt64, pk_lT, br_lnegT, ey] <;> omega)); done)); (focus ((first | rfl | assumption | exact fun z => z rfl | omega | (simp (disch := omega) only [not_true_eq_false, not_false_eq_true, br_u_s, br_u_n, br_u_q, nI_eq, nI_clamp, nI_add, pk_mul, br_R17, br_S17, pk_sub_toInt, br_ltT, br_leT, br_inT, br_nT, br_negT, br_b_0, br_b_1, Int32.toInt_toInt64, pk_lT, br_lnegT, ey] <;> omega)); done)))
        | (refine And.intro ?_ ?_; (focus ((first | rfl | assumption | exact fun z => z rfl | omega | (simp (disch := omega) only [not_true_eq_false, not_false_eq_true, br_u_s, br_u_n, br_u_q, nI_eq, nI_clamp, nI_add, pk_mul, br_R17, br_S17, pk_sub_toInt, br_ltT, br_leT, br_inT, br_nT, br_negT, br_b_0, br_b_1, Int32.toInt_toInt64, pk_lT, br_lnegT, ey] <;> omega)); done))))
end
