set_option maxRecDepth 100000
set_option maxHeartbeats 4000000
theorem br_u_id {α : Type} {f : Nat → Nat → α} {a k : Nat} {x : α} (h : f a k = x) : br_u f a k x = f := by
  funext p j
  unfold br_u
  by_cases h2 : p = a ∧ j = k
  · rw [if_pos h2, h2.1, h2.2, h]
  · rw [if_neg h2]
section
variable {n : Nat} {xs : Nat → Int32} {I : Nat → Nat → Int32} {L : Nat → Nat → Int64}
theorem bp_child (hI : br_Inv xs I L) (x1 x2 x3 : Int32) : br_pair n xs 19 194 [some (.ref 8), some (.int x1), some (.int x2), some (.int x3)] [some (.ref 169), some (.int x1), some (.int x2), some (.int x3), none, none] I L := by
  obtain ⟨N, R, hN, hR, eN, eR, a3, a4, a5⟩ := hI.1.2.1
  rw [Nat.zero_add] at eN eR
  have cN : I 9 8 = nI N := (bi_children hI.1.1).trans eN
  have cR : I 9 2 = nI R := (bi_rooms hI.1.1).trans eR
  by_cases h1 : 0 ≤ x1.toInt ∧ x1.toInt < R
  · by_cases h2 : 1 ≤ x2.toInt ∧ x2.toInt ≤ 6
    · by_cases h3 : 0 ≤ x3.toInt ∧ x3.toInt ≤ 200
      · by_cases h4 : N < 40
        · have hr1 : (nI (N + 1)).toInt = (N : Int) + 1 := by rw [nI_toInt (by omega)]; omega
          obtain ⟨a41, a42, a43⟩ := a4 N (Nat.le_refl N) h4
          rw [Nat.zero_add] at a41 a42
          refine br_pc ⟨nI N, br_u (br_u (br_u (br_u I 12 N x1) 13 N x2) 14 N x3) 9 8 (nI (N + 1)), L, br_u (br_u (br_u (br_u (br_u (br_u (br_u (br_u (br_u I 12 N x1) 13 N x2) 14 N x3) 9 8 (nI (N + 1))) 169 0 (nI 0)) 171 (667 + N) x1) 171 (707 + N) x2) 171 (747 + N) x3) 171 666 (nI (N + 1)), L, fun d Q H => ?_, fun d Q H => ?_, fun j => by ((repeat rw [br_u_n (by omega)]) <;> rfl), br_Inv_w hI ⟨?_, ?_, ?_⟩ (fun p j hp => by unfold br_kO at hp; repeat rw [br_u_n (by omega)])⟩
          · repeat (first
              | exact H
              | refine br_t (by (first | rfl | assumption | omega | (simp (disch := omega) only [br_u_s, br_u_n, br_u_q, nI_eq, nI_clamp, nI_add, pk_mul, br_R17, br_S17, pk_sub_toInt, br_ltT, br_leT, br_inT, br_nT, br_negT, br_b_0, br_b_1, Int32.toInt_toInt64, pk_lT, br_lnegT, cN, cR] <;> omega))) ?_
              | refine br_f (by (first | rfl | assumption | omega | (simp (disch := omega) only [br_u_s, br_u_n, br_u_q, nI_eq, nI_clamp, nI_add, pk_mul, br_R17, br_S17, pk_sub_toInt, br_ltT, br_leT, br_inT, br_nT, br_negT, br_b_0, br_b_1, Int32.toInt_toInt64, pk_lT, br_lnegT, cN, cR] <;> omega))) ?_
              | refine rb_A_child_0 ?_
              | refine rb_A_child_14 ?_
              | refine rb_A_child_22 ?_
              | refine rb_A_child_30 ?_
              | refine rb_A_child_41 ?_
              | refine rb_A_child_49 ?_
              | refine rb_A_child_67 ?_
              | refine rb_A_child_78 ?_
              | refine rb_World_addChild_0 ?_
              | refine rs_out_F (by (first | rfl | assumption | omega | (simp (disch := omega) only [br_u_s, br_u_n, br_u_q, nI_eq, nI_clamp, nI_add, pk_mul, br_R17, br_S17, pk_sub_toInt, br_ltT, br_leT, br_inT, br_nT, br_negT, br_b_0, br_b_1, Int32.toInt_toInt64, pk_lT, br_lnegT, cN, cR] <;> omega))) ?_
              | refine rs_out_T (by (first | rfl | assumption | omega | (simp (disch := omega) only [br_u_s, br_u_n, br_u_q, nI_eq, nI_clamp, nI_add, pk_mul, br_R17, br_S17, pk_sub_toInt, br_ltT, br_leT, br_inT, br_nT, br_negT, br_b_0, br_b_1, Int32.toInt_toInt64, pk_lT, br_lnegT, cN, cR] <;> omega))) ?_
              | refine rs_noChild_F (N := N) (by (first | rfl | assumption | omega | (simp (disch := omega) only [br_u_s, br_u_n, br_u_q, nI_eq, nI_clamp, nI_add, pk_mul, br_R17, br_S17, pk_sub_toInt, br_ltT, br_leT, br_inT, br_nT, br_negT, br_b_0, br_b_1, Int32.toInt_toInt64, pk_lT, br_lnegT, cN, cR] <;> omega))) (by (first | rfl | assumption | omega | (simp (disch := omega) only [br_u_s, br_u_n, br_u_q, nI_eq, nI_clamp, nI_add, pk_mul, br_R17, br_S17, pk_sub_toInt, br_ltT, br_leT, br_inT, br_nT, br_negT, br_b_0, br_b_1, Int32.toInt_toInt64, pk_lT, br_lnegT, cN, cR] <;> omega))) (by (first | rfl | assumption | omega | (simp (disch := omega) only [br_u_s, br_u_n, br_u_q, nI_eq, nI_clamp, nI_add, pk_mul, br_R17, br_S17, pk_sub_toInt, br_ltT, br_leT, br_inT, br_nT, br_negT, br_b_0, br_b_1, Int32.toInt_toInt64, pk_lT, br_lnegT, cN, cR] <;> omega))) ?_
              | refine rs_noChild_T (N := N) (by (first | rfl | assumption | omega | (simp (disch := omega) only [br_u_s, br_u_n, br_u_q, nI_eq, nI_clamp, nI_add, pk_mul, br_R17, br_S17, pk_sub_toInt, br_ltT, br_leT, br_inT, br_nT, br_negT, br_b_0, br_b_1, Int32.toInt_toInt64, pk_lT, br_lnegT, cN, cR] <;> omega))) (by (first | rfl | assumption | omega | (simp (disch := omega) only [br_u_s, br_u_n, br_u_q, nI_eq, nI_clamp, nI_add, pk_mul, br_R17, br_S17, pk_sub_toInt, br_ltT, br_leT, br_inT, br_nT, br_negT, br_b_0, br_b_1, Int32.toInt_toInt64, pk_lT, br_lnegT, cN, cR] <;> omega))) (by (first | rfl | assumption | omega | (simp (disch := omega) only [br_u_s, br_u_n, br_u_q, nI_eq, nI_clamp, nI_add, pk_mul, br_R17, br_S17, pk_sub_toInt, br_ltT, br_leT, br_inT, br_nT, br_negT, br_b_0, br_b_1, Int32.toInt_toInt64, pk_lT, br_lnegT, cN, cR] <;> omega))) ?_
              | refine rs_noTest_F (by (first | rfl | assumption | omega | (simp (disch := omega) only [br_u_s, br_u_n, br_u_q, nI_eq, nI_clamp, nI_add, pk_mul, br_R17, br_S17, pk_sub_toInt, br_ltT, br_leT, br_inT, br_nT, br_negT, br_b_0, br_b_1, Int32.toInt_toInt64, pk_lT, br_lnegT, cN, cR] <;> omega))) ?_
              | refine rs_noTest_T (by (first | rfl | assumption | omega | (simp (disch := omega) only [br_u_s, br_u_n, br_u_q, nI_eq, nI_clamp, nI_add, pk_mul, br_R17, br_S17, pk_sub_toInt, br_ltT, br_leT, br_inT, br_nT, br_negT, br_b_0, br_b_1, Int32.toInt_toInt64, pk_lT, br_lnegT, cN, cR] <;> omega))) ?_
              | refine rs_refuse (by (first | rfl | assumption | omega | (simp (disch := omega) only [br_u_s, br_u_n, br_u_q, nI_eq, nI_clamp, nI_add, pk_mul, br_R17, br_S17, pk_sub_toInt, br_ltT, br_leT, br_inT, br_nT, br_negT, br_b_0, br_b_1, Int32.toInt_toInt64, pk_lT, br_lnegT, cN, cR] <;> omega))) ?_
              | refine ⟨by (first | rfl | assumption | omega | (simp (disch := omega) only [br_u_s, br_u_n, br_u_q, nI_eq, nI_clamp, nI_add, pk_mul, br_R17, br_S17, pk_sub_toInt, br_ltT, br_leT, br_inT, br_nT, br_negT, br_b_0, br_b_1, Int32.toInt_toInt64, pk_lT, br_lnegT, cN, cR] <;> omega)), ?_⟩)
            simp (disch := omega) only [br_u_s, br_u_n, cN, nI_clamp, nI_add, pk_sub, Nat.add_sub_cancel]
            exact H
          · generalize hJ : br_u (br_u (br_u (br_u (br_u (br_u (br_u (br_u I 12 N x1) 13 N x2) 14 N x3) 9 8 (nI (N + 1))) 169 0 (nI 0)) 171 (667 + N) x1) 171 (707 + N) x2) 171 (747 + N) x3 = J at H
            have jN : J 171 666 = nI N := by rw [← hJ, ← eN]; ((repeat rw [br_u_n (by omega)]) <;> rfl)
            have loop : br_r (d + 80) 194 150 [some (.ref 169), some (.int x1), some (.int x2), some (.int x3), some (.int (nI N)), some (.int (nI 0))] [] (br_hp n J L) Q := by
              have one : ∀ t : Nat, t < 6 → br_r (d + 80) 194 150 [some (.ref 169), some (.int x1), some (.int x2), some (.int x3), some (.int (nI N)), some (.int (nI (t + 1)))] [] (br_hp n J L) Q →
                  br_r (d + 80) 194 150 [some (.ref 169), some (.int x1), some (.int x2), some (.int x3), some (.int (nI N)), some (.int (nI t))] [] (br_hp n J L) Q := by
                intro t ht h
                refine rb_M_child_150 (br_f (nI_ge ht (by omega)) ?_)
                rw [pk_mul, nI_add, nI_add, nI_clamp (by omega), nI_add]
                have e : br_u J 171 (867 + 40 * t + N) (-(nI 1)) = J := by
                  refine br_u_id ?_
                  rw [← hJ, ← a43 t ht, Nat.add_assoc]
                  ((repeat rw [br_u_n (by omega)]) <;> rfl)
                rw [e]
                exact ⟨vp_in_nI (by omega) (by omega), h⟩
              refine one 0 (by omega) (one 1 (by omega) (one 2 (by omega) (one 3 (by omega) (one 4 (by omega) (one 5 (by omega) ?_)))))
              refine rb_M_child_150 (br_t (nI_le (Nat.le_refl 6) (by omega)) ?_)
              rw [jN, nI_add]
              exact H
            repeat (first
              | exact H
              | refine br_t (by (first | rfl | assumption | omega | (simp (disch := omega) only [br_u_s, br_u_n, br_u_q, nI_eq, nI_clamp, nI_add, pk_mul, br_R17, br_S17, pk_sub_toInt, br_ltT, br_leT, br_inT, br_nT, br_negT, br_b_0, br_b_1, Int32.toInt_toInt64, pk_lT, br_lnegT, eN, eR] <;> omega))) ?_
              | refine br_f (by (first | rfl | assumption | omega | (simp (disch := omega) only [br_u_s, br_u_n, br_u_q, nI_eq, nI_clamp, nI_add, pk_mul, br_R17, br_S17, pk_sub_toInt, br_ltT, br_leT, br_inT, br_nT, br_negT, br_b_0, br_b_1, Int32.toInt_toInt64, pk_lT, br_lnegT, eN, eR] <;> omega))) ?_
              | refine rb_M_child_0 ?_
              | refine rb_M_child_22 ?_
              | refine rb_M_child_31 ?_
              | refine rb_M_child_41 ?_
              | refine rb_M_child_53 ?_
              | refine rb_M_child_62 ?_
              | refine rb_M_child_86 ?_
              | refine rb_M_child_150 ?_
              | refine rs_wi_T (by (first | rfl | assumption | omega | (simp (disch := omega) only [br_u_s, br_u_n, br_u_q, nI_eq, nI_clamp, nI_add, pk_mul, br_R17, br_S17, pk_sub_toInt, br_ltT, br_leT, br_inT, br_nT, br_negT, br_b_0, br_b_1, Int32.toInt_toInt64, pk_lT, br_lnegT, eN, eR] <;> omega))) ?_
              | refine rs_wi_F (by (first | rfl | assumption | omega | (simp (disch := omega) only [br_u_s, br_u_n, br_u_q, nI_eq, nI_clamp, nI_add, pk_mul, br_R17, br_S17, pk_sub_toInt, br_ltT, br_leT, br_inT, br_nT, br_negT, br_b_0, br_b_1, Int32.toInt_toInt64, pk_lT, br_lnegT, eN, eR] <;> omega))) ?_
              | refine rs_isChild_T (N := N) (by (first | rfl | assumption | omega | (simp (disch := omega) only [br_u_s, br_u_n, br_u_q, nI_eq, nI_clamp, nI_add, pk_mul, br_R17, br_S17, pk_sub_toInt, br_ltT, br_leT, br_inT, br_nT, br_negT, br_b_0, br_b_1, Int32.toInt_toInt64, pk_lT, br_lnegT, eN, eR] <;> omega))) (by (first | rfl | assumption | omega | (simp (disch := omega) only [br_u_s, br_u_n, br_u_q, nI_eq, nI_clamp, nI_add, pk_mul, br_R17, br_S17, pk_sub_toInt, br_ltT, br_leT, br_inT, br_nT, br_negT, br_b_0, br_b_1, Int32.toInt_toInt64, pk_lT, br_lnegT, eN, eR] <;> omega))) (by (first | rfl | assumption | omega | (simp (disch := omega) only [br_u_s, br_u_n, br_u_q, nI_eq, nI_clamp, nI_add, pk_mul, br_R17, br_S17, pk_sub_toInt, br_ltT, br_leT, br_inT, br_nT, br_negT, br_b_0, br_b_1, Int32.toInt_toInt64, pk_lT, br_lnegT, eN, eR] <;> omega))) ?_
              | refine rs_isChild_F (N := N) (by (first | rfl | assumption | omega | (simp (disch := omega) only [br_u_s, br_u_n, br_u_q, nI_eq, nI_clamp, nI_add, pk_mul, br_R17, br_S17, pk_sub_toInt, br_ltT, br_leT, br_inT, br_nT, br_negT, br_b_0, br_b_1, Int32.toInt_toInt64, pk_lT, br_lnegT, eN, eR] <;> omega))) (by (first | rfl | assumption | omega | (simp (disch := omega) only [br_u_s, br_u_n, br_u_q, nI_eq, nI_clamp, nI_add, pk_mul, br_R17, br_S17, pk_sub_toInt, br_ltT, br_leT, br_inT, br_nT, br_negT, br_b_0, br_b_1, Int32.toInt_toInt64, pk_lT, br_lnegT, eN, eR] <;> omega))) (by (first | rfl | assumption | omega | (simp (disch := omega) only [br_u_s, br_u_n, br_u_q, nI_eq, nI_clamp, nI_add, pk_mul, br_R17, br_S17, pk_sub_toInt, br_ltT, br_leT, br_inT, br_nT, br_negT, br_b_0, br_b_1, Int32.toInt_toInt64, pk_lT, br_lnegT, eN, eR] <;> omega))) ?_
              | refine rs_isTest_T (by (first | rfl | assumption | omega | (simp (disch := omega) only [br_u_s, br_u_n, br_u_q, nI_eq, nI_clamp, nI_add, pk_mul, br_R17, br_S17, pk_sub_toInt, br_ltT, br_leT, br_inT, br_nT, br_negT, br_b_0, br_b_1, Int32.toInt_toInt64, pk_lT, br_lnegT, eN, eR] <;> omega))) ?_
              | refine rs_isTest_F (by (first | rfl | assumption | omega | (simp (disch := omega) only [br_u_s, br_u_n, br_u_q, nI_eq, nI_clamp, nI_add, pk_mul, br_R17, br_S17, pk_sub_toInt, br_ltT, br_leT, br_inT, br_nT, br_negT, br_b_0, br_b_1, Int32.toInt_toInt64, pk_lT, br_lnegT, eN, eR] <;> omega))) ?_
              | refine rs_no (by (first | rfl | assumption | omega | (simp (disch := omega) only [br_u_s, br_u_n, br_u_q, nI_eq, nI_clamp, nI_add, pk_mul, br_R17, br_S17, pk_sub_toInt, br_ltT, br_leT, br_inT, br_nT, br_negT, br_b_0, br_b_1, Int32.toInt_toInt64, pk_lT, br_lnegT, eN, eR] <;> omega))) ?_
              | refine rs_pointOf (by (first | rfl | assumption | omega | (simp (disch := omega) only [br_u_s, br_u_n, br_u_q, nI_eq, nI_clamp, nI_add, pk_mul, br_R17, br_S17, pk_sub_toInt, br_ltT, br_leT, br_inT, br_nT, br_negT, br_b_0, br_b_1, Int32.toInt_toInt64, pk_lT, br_lnegT, eN, eR] <;> omega))) (by (first | rfl | assumption | omega | (simp (disch := omega) only [br_u_s, br_u_n, br_u_q, nI_eq, nI_clamp, nI_add, pk_mul, br_R17, br_S17, pk_sub_toInt, br_ltT, br_leT, br_inT, br_nT, br_negT, br_b_0, br_b_1, Int32.toInt_toInt64, pk_lT, br_lnegT, eN, eR] <;> omega))) ?_
              | refine ⟨by (first | rfl | assumption | omega | (simp (disch := omega) only [br_u_s, br_u_n, br_u_q, nI_eq, nI_clamp, nI_add, pk_mul, br_R17, br_S17, pk_sub_toInt, br_ltT, br_leT, br_inT, br_nT, br_negT, br_b_0, br_b_1, Int32.toInt_toInt64, pk_lT, br_lnegT, eN, eR] <;> omega)), ?_⟩)
            simp (disch := omega) only [br_u_n, eN, nI_add, nI_clamp]
            rw [hJ, br_u_id (f := J) (k := 787 + N) (x := nI 0) (by rw [← hJ, ← a41]; ((repeat rw [br_u_n (by omega)]) <;> rfl)), br_u_id (f := J) (k := 827 + N) (x := nI 0) (by rw [← hJ, ← a42]; ((repeat rw [br_u_n (by omega)]) <;> rfl))]
            exact loop
          · have c1 := br_cel_p hI.1.1 (3, 0, 40, 667, 0, 17) (by decide +kernel) N h4 h1.1 (by omega) (p := 12) (j := N) (k := 667 + N) rfl (by omega) (by omega)
            have c2 := br_cel_p c1 (4, 0, 40, 707, 0, 6) (by decide +kernel) N h4 (by omega) h2.2 (p := 13) (j := N) (k := 707 + N) rfl (by omega) (by omega)
            have c3 := br_cel_p c2 (5, 0, 40, 747, 0, 400) (by decide +kernel) N h4 h3.1 (by omega) (p := 14) (j := N) (k := 747 + N) rfl (by omega) (by omega)
            have c4 := br_cel_p c3 (0, 8, 1, 666, 0, 40) (by decide +kernel) 0 (by omega) (x := nI (N + 1)) (by rw [hr1]; omega) (by rw [hr1]; omega) (p := 9) (j := 8) (k := 666) rfl rfl rfl
            exact br_cel_c c4 (fun p j h1 h2 h3 h4 => by ((repeat rw [br_u_n (by omega)]) <;> rfl)) (fun k _ _ => by simp (disch := omega) only [br_u_v, br_u_q])
          · refine ⟨N + 1, R, by omega, hR, br_u_e rfl (by omega), ?_, fun c hc => ?_, fun c h6 h7 => ?_, fun i hi => ?_⟩
            · rw [← eR]; ((repeat rw [br_u_n (by omega)]) <;> rfl)
            · by_cases hcN : c = N
              · subst hcN
                obtain ⟨r, er, hr⟩ := br_nN h1.1
                refine ⟨r, by omega, ?_⟩
                rw [← er, br_u_n (by omega), br_u_n (by omega), br_u_n (by omega), br_u_e rfl (by omega)]
              · obtain ⟨r, hr, e⟩ := a3 c (by omega)
                refine ⟨r, by omega, ?_⟩
                rw [← e]; ((repeat rw [br_u_n (by omega)]) <;> rfl)
            · obtain ⟨e1, e2, e3⟩ := a4 c (by omega) h7
              refine ⟨?_, ?_, fun t ht => ?_⟩
              · rw [← e1]; ((repeat rw [br_u_n (by omega)]) <;> rfl)
              · rw [← e2]; ((repeat rw [br_u_n (by omega)]) <;> rfl)
              · rw [← e3 t ht]; ((repeat rw [br_u_n (by omega)]) <;> rfl)
            · rw [← a5 i hi]; ((repeat rw [br_u_n (by omega)]) <;> rfl)
          · exact br_ru_c hI.1.2.2 (by ((repeat rw [br_u_n (by omega)]) <;> rfl)) (fun j => by ((repeat rw [br_u_n (by omega)]) <;> rfl)) (fun k h1 h2 => by ((repeat rw [br_u_n (by omega)]) <;> rfl))
        · refine br_pair_no hI (k := 4) (by omega) (fun d Q H => ?_) (fun d Q H => ?_)
          · repeat (first
              | exact H
              | refine br_t (by (first | rfl | assumption | omega | (simp (disch := omega) only [br_u_s, br_u_n, br_u_q, nI_eq, nI_clamp, nI_add, pk_mul, br_R17, br_S17, pk_sub_toInt, br_ltT, br_leT, br_inT, br_nT, br_negT, br_b_0, br_b_1, Int32.toInt_toInt64, pk_lT, br_lnegT, cN, cR] <;> omega))) ?_
              | refine br_f (by (first | rfl | assumption | omega | (simp (disch := omega) only [br_u_s, br_u_n, br_u_q, nI_eq, nI_clamp, nI_add, pk_mul, br_R17, br_S17, pk_sub_toInt, br_ltT, br_leT, br_inT, br_nT, br_negT, br_b_0, br_b_1, Int32.toInt_toInt64, pk_lT, br_lnegT, cN, cR] <;> omega))) ?_
              | refine rb_A_child_0 ?_
              | refine rb_A_child_14 ?_
              | refine rb_A_child_22 ?_
              | refine rb_A_child_30 ?_
              | refine rb_A_child_41 ?_
              | refine rb_A_child_49 ?_
              | refine rb_A_child_67 ?_
              | refine rb_A_child_78 ?_
              | refine rs_out_F (by (first | rfl | assumption | omega | (simp (disch := omega) only [br_u_s, br_u_n, br_u_q, nI_eq, nI_clamp, nI_add, pk_mul, br_R17, br_S17, pk_sub_toInt, br_ltT, br_leT, br_inT, br_nT, br_negT, br_b_0, br_b_1, Int32.toInt_toInt64, pk_lT, br_lnegT, cN, cR] <;> omega))) ?_
              | refine rs_out_T (by (first | rfl | assumption | omega | (simp (disch := omega) only [br_u_s, br_u_n, br_u_q, nI_eq, nI_clamp, nI_add, pk_mul, br_R17, br_S17, pk_sub_toInt, br_ltT, br_leT, br_inT, br_nT, br_negT, br_b_0, br_b_1, Int32.toInt_toInt64, pk_lT, br_lnegT, cN, cR] <;> omega))) ?_
              | refine rs_noChild_F (N := N) (by (first | rfl | assumption | omega | (simp (disch := omega) only [br_u_s, br_u_n, br_u_q, nI_eq, nI_clamp, nI_add, pk_mul, br_R17, br_S17, pk_sub_toInt, br_ltT, br_leT, br_inT, br_nT, br_negT, br_b_0, br_b_1, Int32.toInt_toInt64, pk_lT, br_lnegT, cN, cR] <;> omega))) (by (first | rfl | assumption | omega | (simp (disch := omega) only [br_u_s, br_u_n, br_u_q, nI_eq, nI_clamp, nI_add, pk_mul, br_R17, br_S17, pk_sub_toInt, br_ltT, br_leT, br_inT, br_nT, br_negT, br_b_0, br_b_1, Int32.toInt_toInt64, pk_lT, br_lnegT, cN, cR] <;> omega))) (by (first | rfl | assumption | omega | (simp (disch := omega) only [br_u_s, br_u_n, br_u_q, nI_eq, nI_clamp, nI_add, pk_mul, br_R17, br_S17, pk_sub_toInt, br_ltT, br_leT, br_inT, br_nT, br_negT, br_b_0, br_b_1, Int32.toInt_toInt64, pk_lT, br_lnegT, cN, cR] <;> omega))) ?_
              | refine rs_noChild_T (N := N) (by (first | rfl | assumption | omega | (simp (disch := omega) only [br_u_s, br_u_n, br_u_q, nI_eq, nI_clamp, nI_add, pk_mul, br_R17, br_S17, pk_sub_toInt, br_ltT, br_leT, br_inT, br_nT, br_negT, br_b_0, br_b_1, Int32.toInt_toInt64, pk_lT, br_lnegT, cN, cR] <;> omega))) (by (first | rfl | assumption | omega | (simp (disch := omega) only [br_u_s, br_u_n, br_u_q, nI_eq, nI_clamp, nI_add, pk_mul, br_R17, br_S17, pk_sub_toInt, br_ltT, br_leT, br_inT, br_nT, br_negT, br_b_0, br_b_1, Int32.toInt_toInt64, pk_lT, br_lnegT, cN, cR] <;> omega))) (by (first | rfl | assumption | omega | (simp (disch := omega) only [br_u_s, br_u_n, br_u_q, nI_eq, nI_clamp, nI_add, pk_mul, br_R17, br_S17, pk_sub_toInt, br_ltT, br_leT, br_inT, br_nT, br_negT, br_b_0, br_b_1, Int32.toInt_toInt64, pk_lT, br_lnegT, cN, cR] <;> omega))) ?_
              | refine rs_noTest_F (by (first | rfl | assumption | omega | (simp (disch := omega) only [br_u_s, br_u_n, br_u_q, nI_eq, nI_clamp, nI_add, pk_mul, br_R17, br_S17, pk_sub_toInt, br_ltT, br_leT, br_inT, br_nT, br_negT, br_b_0, br_b_1, Int32.toInt_toInt64, pk_lT, br_lnegT, cN, cR] <;> omega))) ?_
              | refine rs_noTest_T (by (first | rfl | assumption | omega | (simp (disch := omega) only [br_u_s, br_u_n, br_u_q, nI_eq, nI_clamp, nI_add, pk_mul, br_R17, br_S17, pk_sub_toInt, br_ltT, br_leT, br_inT, br_nT, br_negT, br_b_0, br_b_1, Int32.toInt_toInt64, pk_lT, br_lnegT, cN, cR] <;> omega))) ?_
              | refine rs_refuse (by (first | rfl | assumption | omega | (simp (disch := omega) only [br_u_s, br_u_n, br_u_q, nI_eq, nI_clamp, nI_add, pk_mul, br_R17, br_S17, pk_sub_toInt, br_ltT, br_leT, br_inT, br_nT, br_negT, br_b_0, br_b_1, Int32.toInt_toInt64, pk_lT, br_lnegT, cN, cR] <;> omega))) ?_
              | refine ⟨by (first | rfl | assumption | omega | (simp (disch := omega) only [br_u_s, br_u_n, br_u_q, nI_eq, nI_clamp, nI_add, pk_mul, br_R17, br_S17, pk_sub_toInt, br_ltT, br_leT, br_inT, br_nT, br_negT, br_b_0, br_b_1, Int32.toInt_toInt64, pk_lT, br_lnegT, cN, cR] <;> omega)), ?_⟩)
          · repeat (first
              | exact H
              | refine br_t (by (first | rfl | assumption | omega | (simp (disch := omega) only [br_u_s, br_u_n, br_u_q, nI_eq, nI_clamp, nI_add, pk_mul, br_R17, br_S17, pk_sub_toInt, br_ltT, br_leT, br_inT, br_nT, br_negT, br_b_0, br_b_1, Int32.toInt_toInt64, pk_lT, br_lnegT, eN, eR] <;> omega))) ?_
              | refine br_f (by (first | rfl | assumption | omega | (simp (disch := omega) only [br_u_s, br_u_n, br_u_q, nI_eq, nI_clamp, nI_add, pk_mul, br_R17, br_S17, pk_sub_toInt, br_ltT, br_leT, br_inT, br_nT, br_negT, br_b_0, br_b_1, Int32.toInt_toInt64, pk_lT, br_lnegT, eN, eR] <;> omega))) ?_
              | refine rb_M_child_0 ?_
              | refine rb_M_child_22 ?_
              | refine rb_M_child_31 ?_
              | refine rb_M_child_41 ?_
              | refine rb_M_child_53 ?_
              | refine rb_M_child_62 ?_
              | refine rb_M_child_86 ?_
              | refine rb_M_child_150 ?_
              | refine rs_wi_T (by (first | rfl | assumption | omega | (simp (disch := omega) only [br_u_s, br_u_n, br_u_q, nI_eq, nI_clamp, nI_add, pk_mul, br_R17, br_S17, pk_sub_toInt, br_ltT, br_leT, br_inT, br_nT, br_negT, br_b_0, br_b_1, Int32.toInt_toInt64, pk_lT, br_lnegT, eN, eR] <;> omega))) ?_
              | refine rs_wi_F (by (first | rfl | assumption | omega | (simp (disch := omega) only [br_u_s, br_u_n, br_u_q, nI_eq, nI_clamp, nI_add, pk_mul, br_R17, br_S17, pk_sub_toInt, br_ltT, br_leT, br_inT, br_nT, br_negT, br_b_0, br_b_1, Int32.toInt_toInt64, pk_lT, br_lnegT, eN, eR] <;> omega))) ?_
              | refine rs_isChild_T (N := N) (by (first | rfl | assumption | omega | (simp (disch := omega) only [br_u_s, br_u_n, br_u_q, nI_eq, nI_clamp, nI_add, pk_mul, br_R17, br_S17, pk_sub_toInt, br_ltT, br_leT, br_inT, br_nT, br_negT, br_b_0, br_b_1, Int32.toInt_toInt64, pk_lT, br_lnegT, eN, eR] <;> omega))) (by (first | rfl | assumption | omega | (simp (disch := omega) only [br_u_s, br_u_n, br_u_q, nI_eq, nI_clamp, nI_add, pk_mul, br_R17, br_S17, pk_sub_toInt, br_ltT, br_leT, br_inT, br_nT, br_negT, br_b_0, br_b_1, Int32.toInt_toInt64, pk_lT, br_lnegT, eN, eR] <;> omega))) (by (first | rfl | assumption | omega | (simp (disch := omega) only [br_u_s, br_u_n, br_u_q, nI_eq, nI_clamp, nI_add, pk_mul, br_R17, br_S17, pk_sub_toInt, br_ltT, br_leT, br_inT, br_nT, br_negT, br_b_0, br_b_1, Int32.toInt_toInt64, pk_lT, br_lnegT, eN, eR] <;> omega))) ?_
              | refine rs_isChild_F (N := N) (by (first | rfl | assumption | omega | (simp (disch := omega) only [br_u_s, br_u_n, br_u_q, nI_eq, nI_clamp, nI_add, pk_mul, br_R17, br_S17, pk_sub_toInt, br_ltT, br_leT, br_inT, br_nT, br_negT, br_b_0, br_b_1, Int32.toInt_toInt64, pk_lT, br_lnegT, eN, eR] <;> omega))) (by (first | rfl | assumption | omega | (simp (disch := omega) only [br_u_s, br_u_n, br_u_q, nI_eq, nI_clamp, nI_add, pk_mul, br_R17, br_S17, pk_sub_toInt, br_ltT, br_leT, br_inT, br_nT, br_negT, br_b_0, br_b_1, Int32.toInt_toInt64, pk_lT, br_lnegT, eN, eR] <;> omega))) (by (first | rfl | assumption | omega | (simp (disch := omega) only [br_u_s, br_u_n, br_u_q, nI_eq, nI_clamp, nI_add, pk_mul, br_R17, br_S17, pk_sub_toInt, br_ltT, br_leT, br_inT, br_nT, br_negT, br_b_0, br_b_1, Int32.toInt_toInt64, pk_lT, br_lnegT, eN, eR] <;> omega))) ?_
              | refine rs_isTest_T (by (first | rfl | assumption | omega | (simp (disch := omega) only [br_u_s, br_u_n, br_u_q, nI_eq, nI_clamp, nI_add, pk_mul, br_R17, br_S17, pk_sub_toInt, br_ltT, br_leT, br_inT, br_nT, br_negT, br_b_0, br_b_1, Int32.toInt_toInt64, pk_lT, br_lnegT, eN, eR] <;> omega))) ?_
              | refine rs_isTest_F (by (first | rfl | assumption | omega | (simp (disch := omega) only [br_u_s, br_u_n, br_u_q, nI_eq, nI_clamp, nI_add, pk_mul, br_R17, br_S17, pk_sub_toInt, br_ltT, br_leT, br_inT, br_nT, br_negT, br_b_0, br_b_1, Int32.toInt_toInt64, pk_lT, br_lnegT, eN, eR] <;> omega))) ?_
              | refine rs_no (by (first | rfl | assumption | omega | (simp (disch := omega) only [br_u_s, br_u_n, br_u_q, nI_eq, nI_clamp, nI_add, pk_mul, br_R17, br_S17, pk_sub_toInt, br_ltT, br_leT, br_inT, br_nT, br_negT, br_b_0, br_b_1, Int32.toInt_toInt64, pk_lT, br_lnegT, eN, eR] <;> omega))) ?_
              | refine rs_pointOf (by (first | rfl | assumption | omega | (simp (disch := omega) only [br_u_s, br_u_n, br_u_q, nI_eq, nI_clamp, nI_add, pk_mul, br_R17, br_S17, pk_sub_toInt, br_ltT, br_leT, br_inT, br_nT, br_negT, br_b_0, br_b_1, Int32.toInt_toInt64, pk_lT, br_lnegT, eN, eR] <;> omega))) (by (first | rfl | assumption | omega | (simp (disch := omega) only [br_u_s, br_u_n, br_u_q, nI_eq, nI_clamp, nI_add, pk_mul, br_R17, br_S17, pk_sub_toInt, br_ltT, br_leT, br_inT, br_nT, br_negT, br_b_0, br_b_1, Int32.toInt_toInt64, pk_lT, br_lnegT, eN, eR] <;> omega))) ?_
              | refine ⟨by (first | rfl | assumption | omega | (simp (disch := omega) only [br_u_s, br_u_n, br_u_q, nI_eq, nI_clamp, nI_add, pk_mul, br_R17, br_S17, pk_sub_toInt, br_ltT, br_leT, br_inT, br_nT, br_negT, br_b_0, br_b_1, Int32.toInt_toInt64, pk_lT, br_lnegT, eN, eR] <;> omega)), ?_⟩)
      · refine br_pair_no hI (k := 3) (by omega) (fun d Q H => ?_) (fun d Q H => ?_)
        · repeat (first
            | exact H
            | refine br_t (by (first | rfl | assumption | omega | (simp (disch := omega) only [br_u_s, br_u_n, br_u_q, nI_eq, nI_clamp, nI_add, pk_mul, br_R17, br_S17, pk_sub_toInt, br_ltT, br_leT, br_inT, br_nT, br_negT, br_b_0, br_b_1, Int32.toInt_toInt64, pk_lT, br_lnegT, cN, cR] <;> omega))) ?_
            | refine br_f (by (first | rfl | assumption | omega | (simp (disch := omega) only [br_u_s, br_u_n, br_u_q, nI_eq, nI_clamp, nI_add, pk_mul, br_R17, br_S17, pk_sub_toInt, br_ltT, br_leT, br_inT, br_nT, br_negT, br_b_0, br_b_1, Int32.toInt_toInt64, pk_lT, br_lnegT, cN, cR] <;> omega))) ?_
            | refine rb_A_child_0 ?_
            | refine rb_A_child_14 ?_
            | refine rb_A_child_22 ?_
            | refine rb_A_child_30 ?_
            | refine rb_A_child_41 ?_
            | refine rb_A_child_49 ?_
            | refine rb_A_child_67 ?_
            | refine rb_A_child_78 ?_
            | refine rs_out_F (by (first | rfl | assumption | omega | (simp (disch := omega) only [br_u_s, br_u_n, br_u_q, nI_eq, nI_clamp, nI_add, pk_mul, br_R17, br_S17, pk_sub_toInt, br_ltT, br_leT, br_inT, br_nT, br_negT, br_b_0, br_b_1, Int32.toInt_toInt64, pk_lT, br_lnegT, cN, cR] <;> omega))) ?_
            | refine rs_out_T (by (first | rfl | assumption | omega | (simp (disch := omega) only [br_u_s, br_u_n, br_u_q, nI_eq, nI_clamp, nI_add, pk_mul, br_R17, br_S17, pk_sub_toInt, br_ltT, br_leT, br_inT, br_nT, br_negT, br_b_0, br_b_1, Int32.toInt_toInt64, pk_lT, br_lnegT, cN, cR] <;> omega))) ?_
            | refine rs_noChild_F (N := N) (by (first | rfl | assumption | omega | (simp (disch := omega) only [br_u_s, br_u_n, br_u_q, nI_eq, nI_clamp, nI_add, pk_mul, br_R17, br_S17, pk_sub_toInt, br_ltT, br_leT, br_inT, br_nT, br_negT, br_b_0, br_b_1, Int32.toInt_toInt64, pk_lT, br_lnegT, cN, cR] <;> omega))) (by (first | rfl | assumption | omega | (simp (disch := omega) only [br_u_s, br_u_n, br_u_q, nI_eq, nI_clamp, nI_add, pk_mul, br_R17, br_S17, pk_sub_toInt, br_ltT, br_leT, br_inT, br_nT, br_negT, br_b_0, br_b_1, Int32.toInt_toInt64, pk_lT, br_lnegT, cN, cR] <;> omega))) (by (first | rfl | assumption | omega | (simp (disch := omega) only [br_u_s, br_u_n, br_u_q, nI_eq, nI_clamp, nI_add, pk_mul, br_R17, br_S17, pk_sub_toInt, br_ltT, br_leT, br_inT, br_nT, br_negT, br_b_0, br_b_1, Int32.toInt_toInt64, pk_lT, br_lnegT, cN, cR] <;> omega))) ?_
            | refine rs_noChild_T (N := N) (by (first | rfl | assumption | omega | (simp (disch := omega) only [br_u_s, br_u_n, br_u_q, nI_eq, nI_clamp, nI_add, pk_mul, br_R17, br_S17, pk_sub_toInt, br_ltT, br_leT, br_inT, br_nT, br_negT, br_b_0, br_b_1, Int32.toInt_toInt64, pk_lT, br_lnegT, cN, cR] <;> omega))) (by (first | rfl | assumption | omega | (simp (disch := omega) only [br_u_s, br_u_n, br_u_q, nI_eq, nI_clamp, nI_add, pk_mul, br_R17, br_S17, pk_sub_toInt, br_ltT, br_leT, br_inT, br_nT, br_negT, br_b_0, br_b_1, Int32.toInt_toInt64, pk_lT, br_lnegT, cN, cR] <;> omega))) (by (first | rfl | assumption | omega | (simp (disch := omega) only [br_u_s, br_u_n, br_u_q, nI_eq, nI_clamp, nI_add, pk_mul, br_R17, br_S17, pk_sub_toInt, br_ltT, br_leT, br_inT, br_nT, br_negT, br_b_0, br_b_1, Int32.toInt_toInt64, pk_lT, br_lnegT, cN, cR] <;> omega))) ?_
            | refine rs_noTest_F (by (first | rfl | assumption | omega | (simp (disch := omega) only [br_u_s, br_u_n, br_u_q, nI_eq, nI_clamp, nI_add, pk_mul, br_R17, br_S17, pk_sub_toInt, br_ltT, br_leT, br_inT, br_nT, br_negT, br_b_0, br_b_1, Int32.toInt_toInt64, pk_lT, br_lnegT, cN, cR] <;> omega))) ?_
            | refine rs_noTest_T (by (first | rfl | assumption | omega | (simp (disch := omega) only [br_u_s, br_u_n, br_u_q, nI_eq, nI_clamp, nI_add, pk_mul, br_R17, br_S17, pk_sub_toInt, br_ltT, br_leT, br_inT, br_nT, br_negT, br_b_0, br_b_1, Int32.toInt_toInt64, pk_lT, br_lnegT, cN, cR] <;> omega))) ?_
            | refine rs_refuse (by (first | rfl | assumption | omega | (simp (disch := omega) only [br_u_s, br_u_n, br_u_q, nI_eq, nI_clamp, nI_add, pk_mul, br_R17, br_S17, pk_sub_toInt, br_ltT, br_leT, br_inT, br_nT, br_negT, br_b_0, br_b_1, Int32.toInt_toInt64, pk_lT, br_lnegT, cN, cR] <;> omega))) ?_
            | refine ⟨by (first | rfl | assumption | omega | (simp (disch := omega) only [br_u_s, br_u_n, br_u_q, nI_eq, nI_clamp, nI_add, pk_mul, br_R17, br_S17, pk_sub_toInt, br_ltT, br_leT, br_inT, br_nT, br_negT, br_b_0, br_b_1, Int32.toInt_toInt64, pk_lT, br_lnegT, cN, cR] <;> omega)), ?_⟩)
        · repeat (first
            | exact H
            | refine br_t (by (first | rfl | assumption | omega | (simp (disch := omega) only [br_u_s, br_u_n, br_u_q, nI_eq, nI_clamp, nI_add, pk_mul, br_R17, br_S17, pk_sub_toInt, br_ltT, br_leT, br_inT, br_nT, br_negT, br_b_0, br_b_1, Int32.toInt_toInt64, pk_lT, br_lnegT, eN, eR] <;> omega))) ?_
            | refine br_f (by (first | rfl | assumption | omega | (simp (disch := omega) only [br_u_s, br_u_n, br_u_q, nI_eq, nI_clamp, nI_add, pk_mul, br_R17, br_S17, pk_sub_toInt, br_ltT, br_leT, br_inT, br_nT, br_negT, br_b_0, br_b_1, Int32.toInt_toInt64, pk_lT, br_lnegT, eN, eR] <;> omega))) ?_
            | refine rb_M_child_0 ?_
            | refine rb_M_child_22 ?_
            | refine rb_M_child_31 ?_
            | refine rb_M_child_41 ?_
            | refine rb_M_child_53 ?_
            | refine rb_M_child_62 ?_
            | refine rb_M_child_86 ?_
            | refine rb_M_child_150 ?_
            | refine rs_wi_T (by (first | rfl | assumption | omega | (simp (disch := omega) only [br_u_s, br_u_n, br_u_q, nI_eq, nI_clamp, nI_add, pk_mul, br_R17, br_S17, pk_sub_toInt, br_ltT, br_leT, br_inT, br_nT, br_negT, br_b_0, br_b_1, Int32.toInt_toInt64, pk_lT, br_lnegT, eN, eR] <;> omega))) ?_
            | refine rs_wi_F (by (first | rfl | assumption | omega | (simp (disch := omega) only [br_u_s, br_u_n, br_u_q, nI_eq, nI_clamp, nI_add, pk_mul, br_R17, br_S17, pk_sub_toInt, br_ltT, br_leT, br_inT, br_nT, br_negT, br_b_0, br_b_1, Int32.toInt_toInt64, pk_lT, br_lnegT, eN, eR] <;> omega))) ?_
            | refine rs_isChild_T (N := N) (by (first | rfl | assumption | omega | (simp (disch := omega) only [br_u_s, br_u_n, br_u_q, nI_eq, nI_clamp, nI_add, pk_mul, br_R17, br_S17, pk_sub_toInt, br_ltT, br_leT, br_inT, br_nT, br_negT, br_b_0, br_b_1, Int32.toInt_toInt64, pk_lT, br_lnegT, eN, eR] <;> omega))) (by (first | rfl | assumption | omega | (simp (disch := omega) only [br_u_s, br_u_n, br_u_q, nI_eq, nI_clamp, nI_add, pk_mul, br_R17, br_S17, pk_sub_toInt, br_ltT, br_leT, br_inT, br_nT, br_negT, br_b_0, br_b_1, Int32.toInt_toInt64, pk_lT, br_lnegT, eN, eR] <;> omega))) (by (first | rfl | assumption | omega | (simp (disch := omega) only [br_u_s, br_u_n, br_u_q, nI_eq, nI_clamp, nI_add, pk_mul, br_R17, br_S17, pk_sub_toInt, br_ltT, br_leT, br_inT, br_nT, br_negT, br_b_0, br_b_1, Int32.toInt_toInt64, pk_lT, br_lnegT, eN, eR] <;> omega))) ?_
            | refine rs_isChild_F (N := N) (by (first | rfl | assumption | omega | (simp (disch := omega) only [br_u_s, br_u_n, br_u_q, nI_eq, nI_clamp, nI_add, pk_mul, br_R17, br_S17, pk_sub_toInt, br_ltT, br_leT, br_inT, br_nT, br_negT, br_b_0, br_b_1, Int32.toInt_toInt64, pk_lT, br_lnegT, eN, eR] <;> omega))) (by (first | rfl | assumption | omega | (simp (disch := omega) only [br_u_s, br_u_n, br_u_q, nI_eq, nI_clamp, nI_add, pk_mul, br_R17, br_S17, pk_sub_toInt, br_ltT, br_leT, br_inT, br_nT, br_negT, br_b_0, br_b_1, Int32.toInt_toInt64, pk_lT, br_lnegT, eN, eR] <;> omega))) (by (first | rfl | assumption | omega | (simp (disch := omega) only [br_u_s, br_u_n, br_u_q, nI_eq, nI_clamp, nI_add, pk_mul, br_R17, br_S17, pk_sub_toInt, br_ltT, br_leT, br_inT, br_nT, br_negT, br_b_0, br_b_1, Int32.toInt_toInt64, pk_lT, br_lnegT, eN, eR] <;> omega))) ?_
            | refine rs_isTest_T (by (first | rfl | assumption | omega | (simp (disch := omega) only [br_u_s, br_u_n, br_u_q, nI_eq, nI_clamp, nI_add, pk_mul, br_R17, br_S17, pk_sub_toInt, br_ltT, br_leT, br_inT, br_nT, br_negT, br_b_0, br_b_1, Int32.toInt_toInt64, pk_lT, br_lnegT, eN, eR] <;> omega))) ?_
            | refine rs_isTest_F (by (first | rfl | assumption | omega | (simp (disch := omega) only [br_u_s, br_u_n, br_u_q, nI_eq, nI_clamp, nI_add, pk_mul, br_R17, br_S17, pk_sub_toInt, br_ltT, br_leT, br_inT, br_nT, br_negT, br_b_0, br_b_1, Int32.toInt_toInt64, pk_lT, br_lnegT, eN, eR] <;> omega))) ?_
            | refine rs_no (by (first | rfl | assumption | omega | (simp (disch := omega) only [br_u_s, br_u_n, br_u_q, nI_eq, nI_clamp, nI_add, pk_mul, br_R17, br_S17, pk_sub_toInt, br_ltT, br_leT, br_inT, br_nT, br_negT, br_b_0, br_b_1, Int32.toInt_toInt64, pk_lT, br_lnegT, eN, eR] <;> omega))) ?_
            | refine rs_pointOf (by (first | rfl | assumption | omega | (simp (disch := omega) only [br_u_s, br_u_n, br_u_q, nI_eq, nI_clamp, nI_add, pk_mul, br_R17, br_S17, pk_sub_toInt, br_ltT, br_leT, br_inT, br_nT, br_negT, br_b_0, br_b_1, Int32.toInt_toInt64, pk_lT, br_lnegT, eN, eR] <;> omega))) (by (first | rfl | assumption | omega | (simp (disch := omega) only [br_u_s, br_u_n, br_u_q, nI_eq, nI_clamp, nI_add, pk_mul, br_R17, br_S17, pk_sub_toInt, br_ltT, br_leT, br_inT, br_nT, br_negT, br_b_0, br_b_1, Int32.toInt_toInt64, pk_lT, br_lnegT, eN, eR] <;> omega))) ?_
            | refine ⟨by (first | rfl | assumption | omega | (simp (disch := omega) only [br_u_s, br_u_n, br_u_q, nI_eq, nI_clamp, nI_add, pk_mul, br_R17, br_S17, pk_sub_toInt, br_ltT, br_leT, br_inT, br_nT, br_negT, br_b_0, br_b_1, Int32.toInt_toInt64, pk_lT, br_lnegT, eN, eR] <;> omega)), ?_⟩)
    · refine br_pair_no hI (k := 3) (by omega) (fun d Q H => ?_) (fun d Q H => ?_)
      · repeat (first
          | exact H
          | refine br_t (by (first | rfl | assumption | omega | (simp (disch := omega) only [br_u_s, br_u_n, br_u_q, nI_eq, nI_clamp, nI_add, pk_mul, br_R17, br_S17, pk_sub_toInt, br_ltT, br_leT, br_inT, br_nT, br_negT, br_b_0, br_b_1, Int32.toInt_toInt64, pk_lT, br_lnegT, cN, cR] <;> omega))) ?_
          | refine br_f (by (first | rfl | assumption | omega | (simp (disch := omega) only [br_u_s, br_u_n, br_u_q, nI_eq, nI_clamp, nI_add, pk_mul, br_R17, br_S17, pk_sub_toInt, br_ltT, br_leT, br_inT, br_nT, br_negT, br_b_0, br_b_1, Int32.toInt_toInt64, pk_lT, br_lnegT, cN, cR] <;> omega))) ?_
          | refine rb_A_child_0 ?_
          | refine rb_A_child_14 ?_
          | refine rb_A_child_22 ?_
          | refine rb_A_child_30 ?_
          | refine rb_A_child_41 ?_
          | refine rb_A_child_49 ?_
          | refine rb_A_child_67 ?_
          | refine rb_A_child_78 ?_
          | refine rs_out_F (by (first | rfl | assumption | omega | (simp (disch := omega) only [br_u_s, br_u_n, br_u_q, nI_eq, nI_clamp, nI_add, pk_mul, br_R17, br_S17, pk_sub_toInt, br_ltT, br_leT, br_inT, br_nT, br_negT, br_b_0, br_b_1, Int32.toInt_toInt64, pk_lT, br_lnegT, cN, cR] <;> omega))) ?_
          | refine rs_out_T (by (first | rfl | assumption | omega | (simp (disch := omega) only [br_u_s, br_u_n, br_u_q, nI_eq, nI_clamp, nI_add, pk_mul, br_R17, br_S17, pk_sub_toInt, br_ltT, br_leT, br_inT, br_nT, br_negT, br_b_0, br_b_1, Int32.toInt_toInt64, pk_lT, br_lnegT, cN, cR] <;> omega))) ?_
          | refine rs_noChild_F (N := N) (by (first | rfl | assumption | omega | (simp (disch := omega) only [br_u_s, br_u_n, br_u_q, nI_eq, nI_clamp, nI_add, pk_mul, br_R17, br_S17, pk_sub_toInt, br_ltT, br_leT, br_inT, br_nT, br_negT, br_b_0, br_b_1, Int32.toInt_toInt64, pk_lT, br_lnegT, cN, cR] <;> omega))) (by (first | rfl | assumption | omega | (simp (disch := omega) only [br_u_s, br_u_n, br_u_q, nI_eq, nI_clamp, nI_add, pk_mul, br_R17, br_S17, pk_sub_toInt, br_ltT, br_leT, br_inT, br_nT, br_negT, br_b_0, br_b_1, Int32.toInt_toInt64, pk_lT, br_lnegT, cN, cR] <;> omega))) (by (first | rfl | assumption | omega | (simp (disch := omega) only [br_u_s, br_u_n, br_u_q, nI_eq, nI_clamp, nI_add, pk_mul, br_R17, br_S17, pk_sub_toInt, br_ltT, br_leT, br_inT, br_nT, br_negT, br_b_0, br_b_1, Int32.toInt_toInt64, pk_lT, br_lnegT, cN, cR] <;> omega))) ?_
          | refine rs_noChild_T (N := N) (by (first | rfl | assumption | omega | (simp (disch := omega) only [br_u_s, br_u_n, br_u_q, nI_eq, nI_clamp, nI_add, pk_mul, br_R17, br_S17, pk_sub_toInt, br_ltT, br_leT, br_inT, br_nT, br_negT, br_b_0, br_b_1, Int32.toInt_toInt64, pk_lT, br_lnegT, cN, cR] <;> omega))) (by (first | rfl | assumption | omega | (simp (disch := omega) only [br_u_s, br_u_n, br_u_q, nI_eq, nI_clamp, nI_add, pk_mul, br_R17, br_S17, pk_sub_toInt, br_ltT, br_leT, br_inT, br_nT, br_negT, br_b_0, br_b_1, Int32.toInt_toInt64, pk_lT, br_lnegT, cN, cR] <;> omega))) (by (first | rfl | assumption | omega | (simp (disch := omega) only [br_u_s, br_u_n, br_u_q, nI_eq, nI_clamp, nI_add, pk_mul, br_R17, br_S17, pk_sub_toInt, br_ltT, br_leT, br_inT, br_nT, br_negT, br_b_0, br_b_1, Int32.toInt_toInt64, pk_lT, br_lnegT, cN, cR] <;> omega))) ?_
          | refine rs_noTest_F (by (first | rfl | assumption | omega | (simp (disch := omega) only [br_u_s, br_u_n, br_u_q, nI_eq, nI_clamp, nI_add, pk_mul, br_R17, br_S17, pk_sub_toInt, br_ltT, br_leT, br_inT, br_nT, br_negT, br_b_0, br_b_1, Int32.toInt_toInt64, pk_lT, br_lnegT, cN, cR] <;> omega))) ?_
          | refine rs_noTest_T (by (first | rfl | assumption | omega | (simp (disch := omega) only [br_u_s, br_u_n, br_u_q, nI_eq, nI_clamp, nI_add, pk_mul, br_R17, br_S17, pk_sub_toInt, br_ltT, br_leT, br_inT, br_nT, br_negT, br_b_0, br_b_1, Int32.toInt_toInt64, pk_lT, br_lnegT, cN, cR] <;> omega))) ?_
          | refine rs_refuse (by (first | rfl | assumption | omega | (simp (disch := omega) only [br_u_s, br_u_n, br_u_q, nI_eq, nI_clamp, nI_add, pk_mul, br_R17, br_S17, pk_sub_toInt, br_ltT, br_leT, br_inT, br_nT, br_negT, br_b_0, br_b_1, Int32.toInt_toInt64, pk_lT, br_lnegT, cN, cR] <;> omega))) ?_
          | refine ⟨by (first | rfl | assumption | omega | (simp (disch := omega) only [br_u_s, br_u_n, br_u_q, nI_eq, nI_clamp, nI_add, pk_mul, br_R17, br_S17, pk_sub_toInt, br_ltT, br_leT, br_inT, br_nT, br_negT, br_b_0, br_b_1, Int32.toInt_toInt64, pk_lT, br_lnegT, cN, cR] <;> omega)), ?_⟩)
      · repeat (first
          | exact H
          | refine br_t (by (first | rfl | assumption | omega | (simp (disch := omega) only [br_u_s, br_u_n, br_u_q, nI_eq, nI_clamp, nI_add, pk_mul, br_R17, br_S17, pk_sub_toInt, br_ltT, br_leT, br_inT, br_nT, br_negT, br_b_0, br_b_1, Int32.toInt_toInt64, pk_lT, br_lnegT, eN, eR] <;> omega))) ?_
          | refine br_f (by (first | rfl | assumption | omega | (simp (disch := omega) only [br_u_s, br_u_n, br_u_q, nI_eq, nI_clamp, nI_add, pk_mul, br_R17, br_S17, pk_sub_toInt, br_ltT, br_leT, br_inT, br_nT, br_negT, br_b_0, br_b_1, Int32.toInt_toInt64, pk_lT, br_lnegT, eN, eR] <;> omega))) ?_
          | refine rb_M_child_0 ?_
          | refine rb_M_child_22 ?_
          | refine rb_M_child_31 ?_
          | refine rb_M_child_41 ?_
          | refine rb_M_child_53 ?_
          | refine rb_M_child_62 ?_
          | refine rb_M_child_86 ?_
          | refine rb_M_child_150 ?_
          | refine rs_wi_T (by (first | rfl | assumption | omega | (simp (disch := omega) only [br_u_s, br_u_n, br_u_q, nI_eq, nI_clamp, nI_add, pk_mul, br_R17, br_S17, pk_sub_toInt, br_ltT, br_leT, br_inT, br_nT, br_negT, br_b_0, br_b_1, Int32.toInt_toInt64, pk_lT, br_lnegT, eN, eR] <;> omega))) ?_
          | refine rs_wi_F (by (first | rfl | assumption | omega | (simp (disch := omega) only [br_u_s, br_u_n, br_u_q, nI_eq, nI_clamp, nI_add, pk_mul, br_R17, br_S17, pk_sub_toInt, br_ltT, br_leT, br_inT, br_nT, br_negT, br_b_0, br_b_1, Int32.toInt_toInt64, pk_lT, br_lnegT, eN, eR] <;> omega))) ?_
          | refine rs_isChild_T (N := N) (by (first | rfl | assumption | omega | (simp (disch := omega) only [br_u_s, br_u_n, br_u_q, nI_eq, nI_clamp, nI_add, pk_mul, br_R17, br_S17, pk_sub_toInt, br_ltT, br_leT, br_inT, br_nT, br_negT, br_b_0, br_b_1, Int32.toInt_toInt64, pk_lT, br_lnegT, eN, eR] <;> omega))) (by (first | rfl | assumption | omega | (simp (disch := omega) only [br_u_s, br_u_n, br_u_q, nI_eq, nI_clamp, nI_add, pk_mul, br_R17, br_S17, pk_sub_toInt, br_ltT, br_leT, br_inT, br_nT, br_negT, br_b_0, br_b_1, Int32.toInt_toInt64, pk_lT, br_lnegT, eN, eR] <;> omega))) (by (first | rfl | assumption | omega | (simp (disch := omega) only [br_u_s, br_u_n, br_u_q, nI_eq, nI_clamp, nI_add, pk_mul, br_R17, br_S17, pk_sub_toInt, br_ltT, br_leT, br_inT, br_nT, br_negT, br_b_0, br_b_1, Int32.toInt_toInt64, pk_lT, br_lnegT, eN, eR] <;> omega))) ?_
          | refine rs_isChild_F (N := N) (by (first | rfl | assumption | omega | (simp (disch := omega) only [br_u_s, br_u_n, br_u_q, nI_eq, nI_clamp, nI_add, pk_mul, br_R17, br_S17, pk_sub_toInt, br_ltT, br_leT, br_inT, br_nT, br_negT, br_b_0, br_b_1, Int32.toInt_toInt64, pk_lT, br_lnegT, eN, eR] <;> omega))) (by (first | rfl | assumption | omega | (simp (disch := omega) only [br_u_s, br_u_n, br_u_q, nI_eq, nI_clamp, nI_add, pk_mul, br_R17, br_S17, pk_sub_toInt, br_ltT, br_leT, br_inT, br_nT, br_negT, br_b_0, br_b_1, Int32.toInt_toInt64, pk_lT, br_lnegT, eN, eR] <;> omega))) (by (first | rfl | assumption | omega | (simp (disch := omega) only [br_u_s, br_u_n, br_u_q, nI_eq, nI_clamp, nI_add, pk_mul, br_R17, br_S17, pk_sub_toInt, br_ltT, br_leT, br_inT, br_nT, br_negT, br_b_0, br_b_1, Int32.toInt_toInt64, pk_lT, br_lnegT, eN, eR] <;> omega))) ?_
          | refine rs_isTest_T (by (first | rfl | assumption | omega | (simp (disch := omega) only [br_u_s, br_u_n, br_u_q, nI_eq, nI_clamp, nI_add, pk_mul, br_R17, br_S17, pk_sub_toInt, br_ltT, br_leT, br_inT, br_nT, br_negT, br_b_0, br_b_1, Int32.toInt_toInt64, pk_lT, br_lnegT, eN, eR] <;> omega))) ?_
          | refine rs_isTest_F (by (first | rfl | assumption | omega | (simp (disch := omega) only [br_u_s, br_u_n, br_u_q, nI_eq, nI_clamp, nI_add, pk_mul, br_R17, br_S17, pk_sub_toInt, br_ltT, br_leT, br_inT, br_nT, br_negT, br_b_0, br_b_1, Int32.toInt_toInt64, pk_lT, br_lnegT, eN, eR] <;> omega))) ?_
          | refine rs_no (by (first | rfl | assumption | omega | (simp (disch := omega) only [br_u_s, br_u_n, br_u_q, nI_eq, nI_clamp, nI_add, pk_mul, br_R17, br_S17, pk_sub_toInt, br_ltT, br_leT, br_inT, br_nT, br_negT, br_b_0, br_b_1, Int32.toInt_toInt64, pk_lT, br_lnegT, eN, eR] <;> omega))) ?_
          | refine rs_pointOf (by (first | rfl | assumption | omega | (simp (disch := omega) only [br_u_s, br_u_n, br_u_q, nI_eq, nI_clamp, nI_add, pk_mul, br_R17, br_S17, pk_sub_toInt, br_ltT, br_leT, br_inT, br_nT, br_negT, br_b_0, br_b_1, Int32.toInt_toInt64, pk_lT, br_lnegT, eN, eR] <;> omega))) (by (first | rfl | assumption | omega | (simp (disch := omega) only [br_u_s, br_u_n, br_u_q, nI_eq, nI_clamp, nI_add, pk_mul, br_R17, br_S17, pk_sub_toInt, br_ltT, br_leT, br_inT, br_nT, br_negT, br_b_0, br_b_1, Int32.toInt_toInt64, pk_lT, br_lnegT, eN, eR] <;> omega))) ?_
          | refine ⟨by (first | rfl | assumption | omega | (simp (disch := omega) only [br_u_s, br_u_n, br_u_q, nI_eq, nI_clamp, nI_add, pk_mul, br_R17, br_S17, pk_sub_toInt, br_ltT, br_leT, br_inT, br_nT, br_negT, br_b_0, br_b_1, Int32.toInt_toInt64, pk_lT, br_lnegT, eN, eR] <;> omega)), ?_⟩)
  · refine br_pair_no hI (k := 2) (by omega) (fun d Q H => ?_) (fun d Q H => ?_)
    · repeat (first
        | exact H
        | refine br_t (by (first | rfl | assumption | omega | (simp (disch := omega) only [br_u_s, br_u_n, br_u_q, nI_eq, nI_clamp, nI_add, pk_mul, br_R17, br_S17, pk_sub_toInt, br_ltT, br_leT, br_inT, br_nT, br_negT, br_b_0, br_b_1, Int32.toInt_toInt64, pk_lT, br_lnegT, cN, cR] <;> omega))) ?_
        | refine br_f (by (first | rfl | assumption | omega | (simp (disch := omega) only [br_u_s, br_u_n, br_u_q, nI_eq, nI_clamp, nI_add, pk_mul, br_R17, br_S17, pk_sub_toInt, br_ltT, br_leT, br_inT, br_nT, br_negT, br_b_0, br_b_1, Int32.toInt_toInt64, pk_lT, br_lnegT, cN, cR] <;> omega))) ?_
        | refine rb_A_child_0 ?_
        | refine rb_A_child_14 ?_
        | refine rb_A_child_22 ?_
        | refine rb_A_child_30 ?_
        | refine rb_A_child_41 ?_
        | refine rb_A_child_49 ?_
        | refine rb_A_child_67 ?_
        | refine rb_A_child_78 ?_
        | refine rs_out_F (by (first | rfl | assumption | omega | (simp (disch := omega) only [br_u_s, br_u_n, br_u_q, nI_eq, nI_clamp, nI_add, pk_mul, br_R17, br_S17, pk_sub_toInt, br_ltT, br_leT, br_inT, br_nT, br_negT, br_b_0, br_b_1, Int32.toInt_toInt64, pk_lT, br_lnegT, cN, cR] <;> omega))) ?_
        | refine rs_out_T (by (first | rfl | assumption | omega | (simp (disch := omega) only [br_u_s, br_u_n, br_u_q, nI_eq, nI_clamp, nI_add, pk_mul, br_R17, br_S17, pk_sub_toInt, br_ltT, br_leT, br_inT, br_nT, br_negT, br_b_0, br_b_1, Int32.toInt_toInt64, pk_lT, br_lnegT, cN, cR] <;> omega))) ?_
        | refine rs_noChild_F (N := N) (by (first | rfl | assumption | omega | (simp (disch := omega) only [br_u_s, br_u_n, br_u_q, nI_eq, nI_clamp, nI_add, pk_mul, br_R17, br_S17, pk_sub_toInt, br_ltT, br_leT, br_inT, br_nT, br_negT, br_b_0, br_b_1, Int32.toInt_toInt64, pk_lT, br_lnegT, cN, cR] <;> omega))) (by (first | rfl | assumption | omega | (simp (disch := omega) only [br_u_s, br_u_n, br_u_q, nI_eq, nI_clamp, nI_add, pk_mul, br_R17, br_S17, pk_sub_toInt, br_ltT, br_leT, br_inT, br_nT, br_negT, br_b_0, br_b_1, Int32.toInt_toInt64, pk_lT, br_lnegT, cN, cR] <;> omega))) (by (first | rfl | assumption | omega | (simp (disch := omega) only [br_u_s, br_u_n, br_u_q, nI_eq, nI_clamp, nI_add, pk_mul, br_R17, br_S17, pk_sub_toInt, br_ltT, br_leT, br_inT, br_nT, br_negT, br_b_0, br_b_1, Int32.toInt_toInt64, pk_lT, br_lnegT, cN, cR] <;> omega))) ?_
        | refine rs_noChild_T (N := N) (by (first | rfl | assumption | omega | (simp (disch := omega) only [br_u_s, br_u_n, br_u_q, nI_eq, nI_clamp, nI_add, pk_mul, br_R17, br_S17, pk_sub_toInt, br_ltT, br_leT, br_inT, br_nT, br_negT, br_b_0, br_b_1, Int32.toInt_toInt64, pk_lT, br_lnegT, cN, cR] <;> omega))) (by (first | rfl | assumption | omega | (simp (disch := omega) only [br_u_s, br_u_n, br_u_q, nI_eq, nI_clamp, nI_add, pk_mul, br_R17, br_S17, pk_sub_toInt, br_ltT, br_leT, br_inT, br_nT, br_negT, br_b_0, br_b_1, Int32.toInt_toInt64, pk_lT, br_lnegT, cN, cR] <;> omega))) (by (first | rfl | assumption | omega | (simp (disch := omega) only [br_u_s, br_u_n, br_u_q, nI_eq, nI_clamp, nI_add, pk_mul, br_R17, br_S17, pk_sub_toInt, br_ltT, br_leT, br_inT, br_nT, br_negT, br_b_0, br_b_1, Int32.toInt_toInt64, pk_lT, br_lnegT, cN, cR] <;> omega))) ?_
        | refine rs_noTest_F (by (first | rfl | assumption | omega | (simp (disch := omega) only [br_u_s, br_u_n, br_u_q, nI_eq, nI_clamp, nI_add, pk_mul, br_R17, br_S17, pk_sub_toInt, br_ltT, br_leT, br_inT, br_nT, br_negT, br_b_0, br_b_1, Int32.toInt_toInt64, pk_lT, br_lnegT, cN, cR] <;> omega))) ?_
        | refine rs_noTest_T (by (first | rfl | assumption | omega | (simp (disch := omega) only [br_u_s, br_u_n, br_u_q, nI_eq, nI_clamp, nI_add, pk_mul, br_R17, br_S17, pk_sub_toInt, br_ltT, br_leT, br_inT, br_nT, br_negT, br_b_0, br_b_1, Int32.toInt_toInt64, pk_lT, br_lnegT, cN, cR] <;> omega))) ?_
        | refine rs_refuse (by (first | rfl | assumption | omega | (simp (disch := omega) only [br_u_s, br_u_n, br_u_q, nI_eq, nI_clamp, nI_add, pk_mul, br_R17, br_S17, pk_sub_toInt, br_ltT, br_leT, br_inT, br_nT, br_negT, br_b_0, br_b_1, Int32.toInt_toInt64, pk_lT, br_lnegT, cN, cR] <;> omega))) ?_
        | refine ⟨by (first | rfl | assumption | omega | (simp (disch := omega) only [br_u_s, br_u_n, br_u_q, nI_eq, nI_clamp, nI_add, pk_mul, br_R17, br_S17, pk_sub_toInt, br_ltT, br_leT, br_inT, br_nT, br_negT, br_b_0, br_b_1, Int32.toInt_toInt64, pk_lT, br_lnegT, cN, cR] <;> omega)), ?_⟩)
    · repeat (first
        | exact H
        | refine br_t (by (first | rfl | assumption | omega | (simp (disch := omega) only [br_u_s, br_u_n, br_u_q, nI_eq, nI_clamp, nI_add, pk_mul, br_R17, br_S17, pk_sub_toInt, br_ltT, br_leT, br_inT, br_nT, br_negT, br_b_0, br_b_1, Int32.toInt_toInt64, pk_lT, br_lnegT, eN, eR] <;> omega))) ?_
        | refine br_f (by (first | rfl | assumption | omega | (simp (disch := omega) only [br_u_s, br_u_n, br_u_q, nI_eq, nI_clamp, nI_add, pk_mul, br_R17, br_S17, pk_sub_toInt, br_ltT, br_leT, br_inT, br_nT, br_negT, br_b_0, br_b_1, Int32.toInt_toInt64, pk_lT, br_lnegT, eN, eR] <;> omega))) ?_
        | refine rb_M_child_0 ?_
        | refine rb_M_child_22 ?_
        | refine rb_M_child_31 ?_
        | refine rb_M_child_41 ?_
        | refine rb_M_child_53 ?_
        | refine rb_M_child_62 ?_
        | refine rb_M_child_86 ?_
        | refine rb_M_child_150 ?_
        | refine rs_wi_T (by (first | rfl | assumption | omega | (simp (disch := omega) only [br_u_s, br_u_n, br_u_q, nI_eq, nI_clamp, nI_add, pk_mul, br_R17, br_S17, pk_sub_toInt, br_ltT, br_leT, br_inT, br_nT, br_negT, br_b_0, br_b_1, Int32.toInt_toInt64, pk_lT, br_lnegT, eN, eR] <;> omega))) ?_
        | refine rs_wi_F (by (first | rfl | assumption | omega | (simp (disch := omega) only [br_u_s, br_u_n, br_u_q, nI_eq, nI_clamp, nI_add, pk_mul, br_R17, br_S17, pk_sub_toInt, br_ltT, br_leT, br_inT, br_nT, br_negT, br_b_0, br_b_1, Int32.toInt_toInt64, pk_lT, br_lnegT, eN, eR] <;> omega))) ?_
        | refine rs_isChild_T (N := N) (by (first | rfl | assumption | omega | (simp (disch := omega) only [br_u_s, br_u_n, br_u_q, nI_eq, nI_clamp, nI_add, pk_mul, br_R17, br_S17, pk_sub_toInt, br_ltT, br_leT, br_inT, br_nT, br_negT, br_b_0, br_b_1, Int32.toInt_toInt64, pk_lT, br_lnegT, eN, eR] <;> omega))) (by (first | rfl | assumption | omega | (simp (disch := omega) only [br_u_s, br_u_n, br_u_q, nI_eq, nI_clamp, nI_add, pk_mul, br_R17, br_S17, pk_sub_toInt, br_ltT, br_leT, br_inT, br_nT, br_negT, br_b_0, br_b_1, Int32.toInt_toInt64, pk_lT, br_lnegT, eN, eR] <;> omega))) (by (first | rfl | assumption | omega | (simp (disch := omega) only [br_u_s, br_u_n, br_u_q, nI_eq, nI_clamp, nI_add, pk_mul, br_R17, br_S17, pk_sub_toInt, br_ltT, br_leT, br_inT, br_nT, br_negT, br_b_0, br_b_1, Int32.toInt_toInt64, pk_lT, br_lnegT, eN, eR] <;> omega))) ?_
        | refine rs_isChild_F (N := N) (by (first | rfl | assumption | omega | (simp (disch := omega) only [br_u_s, br_u_n, br_u_q, nI_eq, nI_clamp, nI_add, pk_mul, br_R17, br_S17, pk_sub_toInt, br_ltT, br_leT, br_inT, br_nT, br_negT, br_b_0, br_b_1, Int32.toInt_toInt64, pk_lT, br_lnegT, eN, eR] <;> omega))) (by (first | rfl | assumption | omega | (simp (disch := omega) only [br_u_s, br_u_n, br_u_q, nI_eq, nI_clamp, nI_add, pk_mul, br_R17, br_S17, pk_sub_toInt, br_ltT, br_leT, br_inT, br_nT, br_negT, br_b_0, br_b_1, Int32.toInt_toInt64, pk_lT, br_lnegT, eN, eR] <;> omega))) (by (first | rfl | assumption | omega | (simp (disch := omega) only [br_u_s, br_u_n, br_u_q, nI_eq, nI_clamp, nI_add, pk_mul, br_R17, br_S17, pk_sub_toInt, br_ltT, br_leT, br_inT, br_nT, br_negT, br_b_0, br_b_1, Int32.toInt_toInt64, pk_lT, br_lnegT, eN, eR] <;> omega))) ?_
        | refine rs_isTest_T (by (first | rfl | assumption | omega | (simp (disch := omega) only [br_u_s, br_u_n, br_u_q, nI_eq, nI_clamp, nI_add, pk_mul, br_R17, br_S17, pk_sub_toInt, br_ltT, br_leT, br_inT, br_nT, br_negT, br_b_0, br_b_1, Int32.toInt_toInt64, pk_lT, br_lnegT, eN, eR] <;> omega))) ?_
        | refine rs_isTest_F (by (first | rfl | assumption | omega | (simp (disch := omega) only [br_u_s, br_u_n, br_u_q, nI_eq, nI_clamp, nI_add, pk_mul, br_R17, br_S17, pk_sub_toInt, br_ltT, br_leT, br_inT, br_nT, br_negT, br_b_0, br_b_1, Int32.toInt_toInt64, pk_lT, br_lnegT, eN, eR] <;> omega))) ?_
        | refine rs_no (by (first | rfl | assumption | omega | (simp (disch := omega) only [br_u_s, br_u_n, br_u_q, nI_eq, nI_clamp, nI_add, pk_mul, br_R17, br_S17, pk_sub_toInt, br_ltT, br_leT, br_inT, br_nT, br_negT, br_b_0, br_b_1, Int32.toInt_toInt64, pk_lT, br_lnegT, eN, eR] <;> omega))) ?_
        | refine rs_pointOf (by (first | rfl | assumption | omega | (simp (disch := omega) only [br_u_s, br_u_n, br_u_q, nI_eq, nI_clamp, nI_add, pk_mul, br_R17, br_S17, pk_sub_toInt, br_ltT, br_leT, br_inT, br_nT, br_negT, br_b_0, br_b_1, Int32.toInt_toInt64, pk_lT, br_lnegT, eN, eR] <;> omega))) (by (first | rfl | assumption | omega | (simp (disch := omega) only [br_u_s, br_u_n, br_u_q, nI_eq, nI_clamp, nI_add, pk_mul, br_R17, br_S17, pk_sub_toInt, br_ltT, br_leT, br_inT, br_nT, br_negT, br_b_0, br_b_1, Int32.toInt_toInt64, pk_lT, br_lnegT, eN, eR] <;> omega))) ?_
        | refine ⟨by (first | rfl | assumption | omega | (simp (disch := omega) only [br_u_s, br_u_n, br_u_q, nI_eq, nI_clamp, nI_add, pk_mul, br_R17, br_S17, pk_sub_toInt, br_ltT, br_leT, br_inT, br_nT, br_negT, br_b_0, br_b_1, Int32.toInt_toInt64, pk_lT, br_lnegT, eN, eR] <;> omega)), ?_⟩)
end
