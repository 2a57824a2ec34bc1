set_option maxRecDepth 100000
set_option maxHeartbeats 4000000
def bm_rw (g : Nat → Int32) (a b k c : Nat) : Bool := bm_rd0 g a b c && (k == 0 || (k == 1 && decide (g (787 + c) = nI 1)) || (k == 2 && (bm_end g c a || bm_end g c b)))
section
variable {n : Nat} {xs : Nat → Int32} {I : Nat → Nat → Int32} {L : Nat → Nat → Int64}
theorem bp_read (hI : br_Inv xs I L) (x1 x2 x3 : Int32) : br_pair n xs 95 239 [some (.ref 8), some (.int x1), some (.int x2), some (.int x3), none] [some (.ref 169), some (.int x1), some (.int x2), some (.int x3), none, none, none] I L := by
  obtain ⟨N, R, hN, hR, eN, eR, a3, a4, a5⟩ := hI.1.2.1
  rw [Nat.zero_add] at eN eR
  have cN : I 9 8 = nI N := (bi_children hI.1.1).trans eN
  have cR : I 9 2 = nI R := (bi_rooms hI.1.1).trans eR
  by_cases h1 : 0 ≤ x1.toInt ∧ x1.toInt < 6
  · by_cases h2 : 0 ≤ x2.toInt ∧ x2.toInt < 6
    · by_cases h3 : 0 ≤ x3.toInt ∧ x3.toInt ≤ 2
      · obtain ⟨a, ha, rfl⟩ := br_of (N := 6) (br_inT.mpr h1)
        obtain ⟨b, hb, rfl⟩ := br_of (N := 6) (br_inT.mpr h2)
        obtain ⟨k, ek, hk⟩ := br_nN h3.1
        subst ek
        by_cases hab : a = b
        · subst hab
          refine br_pair_no hI (k := 3) (by omega) (v := -(nI 3)) (fun d Q H => ?_) (fun d Q H => ?_)
          · repeat (first
              | exact H
              | (refine br_t ?_ ?_; (focus ((first | rfl | assumption | exact fun z => z rfl | omega | (simp (disch := omega) only [not_true_eq_false, not_false_eq_true, br_u_s, br_u_n, br_u_q, nI_eq, nI_clamp, nI_add, pk_mul, br_R17, br_S17, pk_sub_toInt, br_ltT, br_leT, br_inT, br_nT, br_negT, br_b_0, br_b_1, Int32.toInt_toInt64, pk_lT, br_lnegT, cN] <;> omega)); done)))
              | (refine br_f ?_ ?_; (focus ((first | rfl | assumption | exact fun z => z rfl | omega | (simp (disch := omega) only [not_true_eq_false, not_false_eq_true, br_u_s, br_u_n, br_u_q, nI_eq, nI_clamp, nI_add, pk_mul, br_R17, br_S17, pk_sub_toInt, br_ltT, br_leT, br_inT, br_nT, br_negT, br_b_0, br_b_1, Int32.toInt_toInt64, pk_lT, br_lnegT, cN] <;> omega)); done)))
              | refine rb_A_read_0 ?_
              | refine rb_A_read_4 ?_
              | refine rb_A_read_11 ?_
              | refine rb_A_read_20 ?_
              | refine rb_A_read_28 ?_
              | refine rb_A_read_39 ?_
              | refine rb_A_read_54 ?_
              | refine rb_A_read_82 ?_
              | refine rb_A_read_97 ?_
              | (refine rs_out_F ?_ ?_; (focus ((first | rfl | assumption | exact fun z => z rfl | omega | (simp (disch := omega) only [not_true_eq_false, not_false_eq_true, br_u_s, br_u_n, br_u_q, nI_eq, nI_clamp, nI_add, pk_mul, br_R17, br_S17, pk_sub_toInt, br_ltT, br_leT, br_inT, br_nT, br_negT, br_b_0, br_b_1, Int32.toInt_toInt64, pk_lT, br_lnegT, cN] <;> omega)); done)))
              | (refine rs_out_T ?_ ?_; (focus ((first | rfl | assumption | exact fun z => z rfl | omega | (simp (disch := omega) only [not_true_eq_false, not_false_eq_true, br_u_s, br_u_n, br_u_q, nI_eq, nI_clamp, nI_add, pk_mul, br_R17, br_S17, pk_sub_toInt, br_ltT, br_leT, br_inT, br_nT, br_negT, br_b_0, br_b_1, Int32.toInt_toInt64, pk_lT, br_lnegT, cN] <;> omega)); done)))
              | (refine rs_noChild_F (N := N) ?_ ?_ ?_ ?_; (focus ((first | rfl | assumption | exact fun z => z rfl | omega | (simp (disch := omega) only [not_true_eq_false, not_false_eq_true, br_u_s, br_u_n, br_u_q, nI_eq, nI_clamp, nI_add, pk_mul, br_R17, br_S17, pk_sub_toInt, br_ltT, br_leT, br_inT, br_nT, br_negT, br_b_0, br_b_1, Int32.toInt_toInt64, pk_lT, br_lnegT, cN] <;> omega)); done)); (focus ((first | rfl | assumption | exact fun z => z rfl | omega | (simp (disch := omega) only [not_true_eq_false, not_false_eq_true, br_u_s, br_u_n, br_u_q, nI_eq, nI_clamp, nI_add, pk_mul, br_R17, br_S17, pk_sub_toInt, br_ltT, br_leT, br_inT, br_nT, br_negT, br_b_0, br_b_1, Int32.toInt_toInt64, pk_lT, br_lnegT, cN] <;> omega)); done)); (focus ((first | rfl | assumption | exact fun z => z rfl | omega | (simp (disch := omega) only [not_true_eq_false, not_false_eq_true, br_u_s, br_u_n, br_u_q, nI_eq, nI_clamp, nI_add, pk_mul, br_R17, br_S17, pk_sub_toInt, br_ltT, br_leT, br_inT, br_nT, br_negT, br_b_0, br_b_1, Int32.toInt_toInt64, pk_lT, br_lnegT, cN] <;> omega)); done)))
              | (refine rs_noChild_T (N := N) ?_ ?_ ?_ ?_; (focus ((first | rfl | assumption | exact fun z => z rfl | omega | (simp (disch := omega) only [not_true_eq_false, not_false_eq_true, br_u_s, br_u_n, br_u_q, nI_eq, nI_clamp, nI_add, pk_mul, br_R17, br_S17, pk_sub_toInt, br_ltT, br_leT, br_inT, br_nT, br_negT, br_b_0, br_b_1, Int32.toInt_toInt64, pk_lT, br_lnegT, cN] <;> omega)); done)); (focus ((first | rfl | assumption | exact fun z => z rfl | omega | (simp (disch := omega) only [not_true_eq_false, not_false_eq_true, br_u_s, br_u_n, br_u_q, nI_eq, nI_clamp, nI_add, pk_mul, br_R17, br_S17, pk_sub_toInt, br_ltT, br_leT, br_inT, br_nT, br_negT, br_b_0, br_b_1, Int32.toInt_toInt64, pk_lT, br_lnegT, cN] <;> omega)); done)); (focus ((first | rfl | assumption | exact fun z => z rfl | omega | (simp (disch := omega) only [not_true_eq_false, not_false_eq_true, br_u_s, br_u_n, br_u_q, nI_eq, nI_clamp, nI_add, pk_mul, br_R17, br_S17, pk_sub_toInt, br_ltT, br_leT, br_inT, br_nT, br_negT, br_b_0, br_b_1, Int32.toInt_toInt64, pk_lT, br_lnegT, cN] <;> omega)); done)))
              | (refine rs_noTest_F ?_ ?_; (focus ((first | rfl | assumption | exact fun z => z rfl | omega | (simp (disch := omega) only [not_true_eq_false, not_false_eq_true, br_u_s, br_u_n, br_u_q, nI_eq, nI_clamp, nI_add, pk_mul, br_R17, br_S17, pk_sub_toInt, br_ltT, br_leT, br_inT, br_nT, br_negT, br_b_0, br_b_1, Int32.toInt_toInt64, pk_lT, br_lnegT, cN] <;> omega)); done)))
              | (refine rs_noTest_T ?_ ?_; (focus ((first | rfl | assumption | exact fun z => z rfl | omega | (simp (disch := omega) only [not_true_eq_false, not_false_eq_true, br_u_s, br_u_n, br_u_q, nI_eq, nI_clamp, nI_add, pk_mul, br_R17, br_S17, pk_sub_toInt, br_ltT, br_leT, br_inT, br_nT, br_negT, br_b_0, br_b_1, Int32.toInt_toInt64, pk_lT, br_lnegT, cN] <;> omega)); done)))
              | (refine rs_refuse ?_ ?_; (focus ((first | rfl | assumption | exact fun z => z rfl | omega | (simp (disch := omega) only [not_true_eq_false, not_false_eq_true, br_u_s, br_u_n, br_u_q, nI_eq, nI_clamp, nI_add, pk_mul, br_R17, br_S17, pk_sub_toInt, br_ltT, br_leT, br_inT, br_nT, br_negT, br_b_0, br_b_1, Int32.toInt_toInt64, pk_lT, br_lnegT, cN] <;> omega)); done)))
              | (refine And.intro ?_ ?_; (focus ((first | rfl | assumption | exact fun z => z rfl | omega | (simp (disch := omega) only [not_true_eq_false, not_false_eq_true, br_u_s, br_u_n, br_u_q, nI_eq, nI_clamp, nI_add, pk_mul, br_R17, br_S17, pk_sub_toInt, br_ltT, br_leT, br_inT, br_nT, br_negT, br_b_0, br_b_1, Int32.toInt_toInt64, pk_lT, br_lnegT, cN] <;> omega)); done))))
          · repeat (first
              | exact H
              | (refine br_t ?_ ?_; (focus ((first | rfl | assumption | exact fun z => z rfl | omega | (simp (disch := omega) only [not_true_eq_false, not_false_eq_true, br_u_s, br_u_n, br_u_q, nI_eq, nI_clamp, nI_add, pk_mul, br_R17, br_S17, pk_sub_toInt, br_ltT, br_leT, br_inT, br_nT, br_negT, br_b_0, br_b_1, Int32.toInt_toInt64, pk_lT, br_lnegT, eN] <;> omega)); done)))
              | (refine br_f ?_ ?_; (focus ((first | rfl | assumption | exact fun z => z rfl | omega | (simp (disch := omega) only [not_true_eq_false, not_false_eq_true, br_u_s, br_u_n, br_u_q, nI_eq, nI_clamp, nI_add, pk_mul, br_R17, br_S17, pk_sub_toInt, br_ltT, br_leT, br_inT, br_nT, br_negT, br_b_0, br_b_1, Int32.toInt_toInt64, pk_lT, br_lnegT, eN] <;> omega)); done)))
              | refine rb_M_read_0 ?_
              | refine rb_M_read_9 ?_
              | refine rb_M_read_16 ?_
              | refine rb_M_read_28 ?_
              | refine rb_M_read_37 ?_
              | refine rb_M_read_49 ?_
              | refine rb_M_read_57 ?_
              | refine rb_M_read_63 ?_
              | refine rb_M_read_91 ?_
              | refine rb_M_read_94 ?_
              | refine rb_M_read_116 ?_
              | refine rb_M_read_126 ?_
              | refine rb_M_read_129 ?_
              | refine rb_M_read_133 ?_
              | (refine rs_wi_T ?_ ?_; (focus ((first | rfl | assumption | exact fun z => z rfl | omega | (simp (disch := omega) only [not_true_eq_false, not_false_eq_true, br_u_s, br_u_n, br_u_q, nI_eq, nI_clamp, nI_add, pk_mul, br_R17, br_S17, pk_sub_toInt, br_ltT, br_leT, br_inT, br_nT, br_negT, br_b_0, br_b_1, Int32.toInt_toInt64, pk_lT, br_lnegT, eN] <;> omega)); done)))
              | (refine rs_wi_F ?_ ?_; (focus ((first | rfl | assumption | exact fun z => z rfl | omega | (simp (disch := omega) only [not_true_eq_false, not_false_eq_true, br_u_s, br_u_n, br_u_q, nI_eq, nI_clamp, nI_add, pk_mul, br_R17, br_S17, pk_sub_toInt, br_ltT, br_leT, br_inT, br_nT, br_negT, br_b_0, br_b_1, Int32.toInt_toInt64, pk_lT, br_lnegT, eN] <;> omega)); done)))
              | (refine rs_isChild_T (N := N) ?_ ?_ ?_ ?_; (focus ((first | rfl | assumption | exact fun z => z rfl | omega | (simp (disch := omega) only [not_true_eq_false, not_false_eq_true, br_u_s, br_u_n, br_u_q, nI_eq, nI_clamp, nI_add, pk_mul, br_R17, br_S17, pk_sub_toInt, br_ltT, br_leT, br_inT, br_nT, br_negT, br_b_0, br_b_1, Int32.toInt_toInt64, pk_lT, br_lnegT, eN] <;> omega)); done)); (focus ((first | rfl | assumption | exact fun z => z rfl | omega | (simp (disch := omega) only [not_true_eq_false, not_false_eq_true, br_u_s, br_u_n, br_u_q, nI_eq, nI_clamp, nI_add, pk_mul, br_R17, br_S17, pk_sub_toInt, br_ltT, br_leT, br_inT, br_nT, br_negT, br_b_0, br_b_1, Int32.toInt_toInt64, pk_lT, br_lnegT, eN] <;> omega)); done)); (focus ((first | rfl | assumption | exact fun z => z rfl | omega | (simp (disch := omega) only [not_true_eq_false, not_false_eq_true, br_u_s, br_u_n, br_u_q, nI_eq, nI_clamp, nI_add, pk_mul, br_R17, br_S17, pk_sub_toInt, br_ltT, br_leT, br_inT, br_nT, br_negT, br_b_0, br_b_1, Int32.toInt_toInt64, pk_lT, br_lnegT, eN] <;> omega)); done)))
              | (refine rs_isChild_F (N := N) ?_ ?_ ?_ ?_; (focus ((first | rfl | assumption | exact fun z => z rfl | omega | (simp (disch := omega) only [not_true_eq_false, not_false_eq_true, br_u_s, br_u_n, br_u_q, nI_eq, nI_clamp, nI_add, pk_mul, br_R17, br_S17, pk_sub_toInt, br_ltT, br_leT, br_inT, br_nT, br_negT, br_b_0, br_b_1, Int32.toInt_toInt64, pk_lT, br_lnegT, eN] <;> omega)); done)); (focus ((first | rfl | assumption | exact fun z => z rfl | omega | (simp (disch := omega) only [not_true_eq_false, not_false_eq_true, br_u_s, br_u_n, br_u_q, nI_eq, nI_clamp, nI_add, pk_mul, br_R17, br_S17, pk_sub_toInt, br_ltT, br_leT, br_inT, br_nT, br_negT, br_b_0, br_b_1, Int32.toInt_toInt64, pk_lT, br_lnegT, eN] <;> omega)); done)); (focus ((first | rfl | assumption | exact fun z => z rfl | omega | (simp (disch := omega) only [not_true_eq_false, not_false_eq_true, br_u_s, br_u_n, br_u_q, nI_eq, nI_clamp, nI_add, pk_mul, br_R17, br_S17, pk_sub_toInt, br_ltT, br_leT, br_inT, br_nT, br_negT, br_b_0, br_b_1, Int32.toInt_toInt64, pk_lT, br_lnegT, eN] <;> omega)); done)))
              | (refine rs_isTest_T ?_ ?_; (focus ((first | rfl | assumption | exact fun z => z rfl | omega | (simp (disch := omega) only [not_true_eq_false, not_false_eq_true, br_u_s, br_u_n, br_u_q, nI_eq, nI_clamp, nI_add, pk_mul, br_R17, br_S17, pk_sub_toInt, br_ltT, br_leT, br_inT, br_nT, br_negT, br_b_0, br_b_1, Int32.toInt_toInt64, pk_lT, br_lnegT, eN] <;> omega)); done)))
              | (refine rs_isTest_F ?_ ?_; (focus ((first | rfl | assumption | exact fun z => z rfl | omega | (simp (disch := omega) only [not_true_eq_false, not_false_eq_true, br_u_s, br_u_n, br_u_q, nI_eq, nI_clamp, nI_add, pk_mul, br_R17, br_S17, pk_sub_toInt, br_ltT, br_leT, br_inT, br_nT, br_negT, br_b_0, br_b_1, Int32.toInt_toInt64, pk_lT, br_lnegT, eN] <;> omega)); done)))
              | (refine rs_no ?_ ?_; (focus ((first | rfl | assumption | exact fun z => z rfl | omega | (simp (disch := omega) only [not_true_eq_false, not_false_eq_true, br_u_s, br_u_n, br_u_q, nI_eq, nI_clamp, nI_add, pk_mul, br_R17, br_S17, pk_sub_toInt, br_ltT, br_leT, br_inT, br_nT, br_negT, br_b_0, br_b_1, Int32.toInt_toInt64, pk_lT, br_lnegT, eN] <;> omega)); done)))
              | (refine rs_pointOf ?_ ?_ ?_; (focus ((first | rfl | assumption | exact fun z => z rfl | omega | (simp (disch := omega) only [not_true_eq_false, not_false_eq_true, br_u_s, br_u_n, br_u_q, nI_eq, nI_clamp, nI_add, pk_mul, br_R17, br_S17, pk_sub_toInt, br_ltT, br_leT, br_inT, br_nT, br_negT, br_b_0, br_b_1, Int32.toInt_toInt64, pk_lT, br_lnegT, eN] <;> omega)); done)); (focus ((first | rfl | assumption | exact fun z => z rfl | omega | (simp (disch := omega) only [not_true_eq_false, not_false_eq_true, br_u_s, br_u_n, br_u_q, nI_eq, nI_clamp, nI_add, pk_mul, br_R17, br_S17, pk_sub_toInt, br_ltT, br_leT, br_inT, br_nT, br_negT, br_b_0, br_b_1, Int32.toInt_toInt64, pk_lT, br_lnegT, eN] <;> omega)); done)))
              | (refine And.intro ?_ ?_; (focus ((first | rfl | assumption | exact fun z => z rfl | omega | (simp (disch := omega) only [not_true_eq_false, not_false_eq_true, br_u_s, br_u_n, br_u_q, nI_eq, nI_clamp, nI_add, pk_mul, br_R17, br_S17, pk_sub_toInt, br_ltT, br_leT, br_inT, br_nT, br_negT, br_b_0, br_b_1, Int32.toInt_toInt64, pk_lT, br_lnegT, eN] <;> omega)); done))))
        · have hab2 : ¬ nI a = nI b := by rw [nI_eq (by omega) (by omega)]; exact hab
          obtain ⟨m, ht, hrg⟩ := br_rg_of hI.1.2.2
          intro d Q K
          -- the model's half
          have fin : ∀ J : Nat → Nat → Int32, (∀ p, ¬ (64 ≤ p ∧ p ≤ 67) → J p = I p) → Q (some (.int (nI (bm_cnt (bm_rw (I 171) a b k) N)))) (br_hp n J L) := by
            intro J hJ
            refine K _ J L (fun j => by rw [hJ 1 (by omega)]) (fun d' Q' k' => ?_)
            have eg : br_u J 169 0 (nI 0) 171 = I 171 := by rw [br_u_q (by omega), hJ 171 (by omega)]
            have body : br_r (d' + 79) 240 0 [some (.ref 169), some (.int (nI a)), some (.int (nI b)), some (.int (nI (false).toNat)), none, none] [] (br_hp n (br_u J 169 0 (nI 0)) L) (fun v h => br_r (d' + 80) 239 57 [some (.ref 169), some (.int (nI a)), some (.int (nI b)), some (.int (nI k)), none, none, none] (v.toList ++ []) (br_bk h) Q') := by
              refine rs_M_looksAt (clean := false) eg hrg ha hb eN hN (br_room18 hI hN eN) (fun J2 hJ2 hP => rb_M_read_57 ?_)
              have g2 : J2 171 = I 171 := by rw [hJ2 171 (by omega) (by omega), eg]
              have fin2 : Q' (some (.int (nI (bm_cnt (bm_rw (I 171) a b k) N)))) (br_hp n J2 L) := k' J2 L (br_Inv_s hI (fun p j hp => by unfold br_scr at hp; rw [hJ2 p (by omega) (by omega), br_u_n (by omega), hJ p (by omega)]))
              have loop : ∀ q c (z6 : Option Value), c + q = N → br_r (d' + 80) 239 63 [some (.ref 169), some (.int (nI a)), some (.int (nI b)), some (.int (nI k)), some (.int (nI (bm_cnt (bm_rw (I 171) a b k) c))), some (.int (nI c)), z6] [] (br_hp n J2 L) Q' := by
                intro q
                induction q with
                | zero =>
                  intro c z6 hc
                  have : c = N := by omega
                  subst this
                  exact rb_M_read_63 (br_t (by rw [g2, eN]; exact nI_le (Nat.le_refl _) (by omega)) fin2)
                | succ q ih =>
                  intro c z6 hc
                  have h5 := fun z => ih (c + 1) z (by omega)
                  have hp := hP c (by omega)
                  have er : bm_rd (I 171) a b false c = bm_rd0 (I 171) a b c := by unfold bm_rd; simp
                  rw [decide_eq_true (show c < N by omega), Bool.true_and, er] at hp
                  -- both ends of a turn
                  have t1 : ∀ z : Option Value, (k == 0 || (k == 1 && decide (I 171 (787 + c) = nI 1)) || (k == 2 && (bm_end (I 171) c a || bm_end (I 171) c b))) = true → br_r (d' + 80) 239 129 [some (.ref 169), some (.int (nI a)), some (.int (nI b)), some (.int (nI k)), some (.int (nI (bm_cnt (bm_rw (I 171) a b k) c))), some (.int (nI c)), z] [] (br_hp n J2 L) Q' := by
                    intro z hw
                    refine rb_M_read_129 ?_
                    rw [nI_clamp (by omega), hp, bu_nI0, nI_add, nI_add, nI_add, Nat.add_zero]
                    refine ⟨vp_in_nI (by omega) (by omega), fun h => ?_, fun h => ?_⟩
                    · rw [bm_cnt_F (by unfold bm_rw; rw [h]; rfl)] at h5; exact h5 _
                    · rw [Bool.not_eq_false] at h
                      rw [bm_cnt_T (by unfold bm_rw; rw [h, hw]; rfl)] at h5; exact h5 _
                  have t0 : ∀ z : Option Value, (bm_rd0 (I 171) a b c = true → (k == 0 || (k == 1 && decide (I 171 (787 + c) = nI 1)) || (k == 2 && (bm_end (I 171) c a || bm_end (I 171) c b))) = false) → br_r (d' + 80) 239 133 [some (.ref 169), some (.int (nI a)), some (.int (nI b)), some (.int (nI k)), some (.int (nI (bm_cnt (bm_rw (I 171) a b k) c))), some (.int (nI c)), z] [] (br_hp n J2 L) Q' := by
                    intro z hw
                    refine rb_M_read_133 ?_
                    rw [nI_clamp (by omega), hp, bu_nI0, nI_add, nI_add, Nat.add_zero]
                    have hF : bm_rw (I 171) a b k c = false := by
                      unfold bm_rw
                      cases hr : bm_rd0 (I 171) a b c with
                      | true => rw [hw hr]; rfl
                      | false => rfl
                    rw [bm_cnt_F hF] at h5
                    exact ⟨vp_in_nI (by omega) (by omega), fun _ => h5 _, fun _ => h5 _⟩
                  refine rb_M_read_63 (br_f (by rw [g2, eN]; exact nI_ge (by omega) (by omega)) ?_)
                  rcases (by omega : k = 0 ∨ k = 1 ∨ k = 2) with rfl | rfl | rfl
                  · exact br_t rfl (t1 _ rfl)
                  · refine br_f (by decide +kernel) (br_f (fun z => z rfl) (rs_M_isNamed g2 (by omega) (rb_M_read_91 ?_)))
                    rw [bu_nI0]
                    refine ⟨fun h => t1 _ ?_, fun h => rb_M_read_94 (br_t (by decide +kernel) (t0 _ (fun _ => ?_)))⟩
                    · rw [Bool.not_eq_false] at h; rw [h]; rfl
                    · rw [Classical.not_not.mp h]; rfl
                  · refine br_f (by decide +kernel) (br_t (by decide +kernel) (rb_M_read_94 (br_f (fun z => z rfl) ?_)))
                    rw [nI_clamp (by omega), hp, bu_nI0]
                    refine ⟨vp_in_nI (by omega) (by omega), fun h => t0 _ (fun z => by rw [h] at z; cases z), fun h => rs_M_isEnd g2 (by omega) ha (rb_M_read_116 ?_)⟩
                    rw [bu_nI0]
                    refine ⟨fun h6 => t1 _ ?_, fun h6 => rs_M_isEnd g2 (by omega) hb (rb_M_read_126 ?_)⟩
                    · rw [Bool.not_eq_false] at h6; rw [h6]; rfl
                    · rw [bu_nI0]
                      have h6' := Classical.not_not.mp h6
                      refine ⟨fun h7 => t0 _ (fun _ => ?_), fun h7 => t1 _ ?_⟩
                      · rw [h6', h7]; rfl
                      · rw [Bool.not_eq_false] at h7; rw [h6', h7]; rfl
              exact loop N 0 none (by omega)
            refine rb_M_read_0 (rs_isTest_T h1 (rb_M_read_9 (br_f br_10 (rs_isTest_T h2 (rb_M_read_16 (br_f br_10 (rs_wi_T ?_ (rb_M_read_28 (br_t br_10 (br_t hab2 body))))))))))
            rw [pk_lT (by omega), pk_lT (by omega), Int32.toInt_toInt64]; exact h3
          have e0 : ∀ c, bm_rd (I 171) a b false c = bm_rd0 (I 171) a b c := fun c => by unfold bm_rd; simp
          refine rb_A_read_0 (rs_noTest_F h1 (rb_A_read_4 (br_f (fun z => z rfl) (rs_noTest_F h2 (rb_A_read_11 (br_f (fun z => z rfl) (rs_out_F ?_ (rb_A_read_20 (br_t rfl (br_t hab2 ?_))))))))))
          · rw [nI_toInt (by omega), nI_toInt (by omega), nI_toInt (by omega)]; rw [nI_toInt (by omega)] at h3; exact h3
          · refine rs_W_gather (clean := false) hI.1 hN eN ha hb (fun J hJ hs => rb_A_read_54 ?_)
            have hl := bs_l_cnt (P := bm_rd (I 171) a b false) (E := bs_e (I 171) a b) N
            have ec : bm_cnt (bm_rd (I 171) a b false) N = bm_cnt (bm_rd0 (I 171) a b) N := bm_cnt_c N (fun c _ => e0 c)
            rcases (by omega : k = 0 ∨ k = 1 ∨ k = 2) with rfl | rfl | rfl
            · refine br_f (fun z => z rfl) ?_
              have := fin J hJ
              rw [bm_cnt_c (q := bm_rd0 (I 171) a b) N (fun c _ => by unfold bm_rw; simp), ← ec, ← hl] at this
              rw [hs.2.1]; exact this
            · refine br_t (by decide +kernel) (br_f (fun z => z rfl) (rs_S_named hs (rb_A_read_82 ?_)))
              have := fin J hJ
              rw [bs_n_cnt, bm_cnt_c (q := bm_rw (I 171) a b 1) N (fun c _ => by
                have e2 : (bs_e (I 171) a b c).2.2 = decide (I 171 (787 + c) = nI 1) := rfl
                rw [e0 c, e2]; unfold bm_rw; simp)]
              exact this
            · have hWJ : br_W 9 0 J := br_W_c hI.1 (fun p j h1 h2 => by rw [hJ p (by omega)]) (fun k _ => by rw [hJ 171 (by omega)])
              have j171 : J 171 = I 171 := hJ 171 (by omega)
              refine br_t (by decide +kernel) (br_t (by decide +kernel) (rs_W_gather (clean := true) hWJ hN (by rw [j171]; exact eN) ha hb (fun J3 hJ3 hs3 => rb_A_read_97 ?_)))
              have := fin J3 (fun p hp => by rw [hJ3 p hp, hJ p hp])
              rw [j171] at hs3
              have hl3 := bs_l_cnt (P := bm_rd (I 171) a b true) (E := bs_e (I 171) a b) N
              have hsub := bm_cnt_sub (P := bm_rd0 (I 171) a b) (q := fun c => bm_end (I 171) c a || bm_end (I 171) c b) N
              have q1 : bm_cnt (fun c => bm_rd0 (I 171) a b c && (bm_end (I 171) c a || bm_end (I 171) c b)) N = bm_cnt (bm_rw (I 171) a b 2) N := bm_cnt_c N (fun c _ => by unfold bm_rw; simp)
              have q2 : bm_cnt (fun c => bm_rd0 (I 171) a b c && !(bm_end (I 171) c a || bm_end (I 171) c b)) N = bm_cnt (bm_rd (I 171) a b true) N := bm_cnt_c N (fun c _ => by unfold bm_rd; simp)
              rw [hs3.2.1, hs.2.1, hl, hl3, ec, hsub, q1, q2, pk_sub (by omega), Nat.add_sub_cancel]
              exact this
      · refine br_pair_no hI (k := 2) (by omega) (v := -(nI 2)) (fun d Q H => ?_) (fun d Q H => ?_)
        · repeat (first
            | exact H
            | (refine br_t ?_ ?_; (focus ((first | rfl | assumption | exact fun z => z rfl | omega | (simp (disch := omega) only [not_true_eq_false, not_false_eq_true, br_u_s, br_u_n, br_u_q, nI_eq, nI_clamp, nI_add, pk_mul, br_R17, br_S17, pk_sub_toInt, br_ltT, br_leT, br_inT, br_nT, br_negT, br_b_0, br_b_1, Int32.toInt_toInt64, pk_lT, br_lnegT, cN] <;> omega)); done)))
            | (refine br_f ?_ ?_; (focus ((first | rfl | assumption | exact fun z => z rfl | omega | (simp (disch := omega) only [not_true_eq_false, not_false_eq_true, br_u_s, br_u_n, br_u_q, nI_eq, nI_clamp, nI_add, pk_mul, br_R17, br_S17, pk_sub_toInt, br_ltT, br_leT, br_inT, br_nT, br_negT, br_b_0, br_b_1, Int32.toInt_toInt64, pk_lT, br_lnegT, cN] <;> omega)); done)))
            | refine rb_A_read_0 ?_
            | refine rb_A_read_4 ?_
            | refine rb_A_read_11 ?_
            | refine rb_A_read_20 ?_
            | refine rb_A_read_28 ?_
            | refine rb_A_read_39 ?_
            | refine rb_A_read_54 ?_
            | refine rb_A_read_82 ?_
            | refine rb_A_read_97 ?_
            | (refine rs_out_F ?_ ?_; (focus ((first | rfl | assumption | exact fun z => z rfl | omega | (simp (disch := omega) only [not_true_eq_false, not_false_eq_true, br_u_s, br_u_n, br_u_q, nI_eq, nI_clamp, nI_add, pk_mul, br_R17, br_S17, pk_sub_toInt, br_ltT, br_leT, br_inT, br_nT, br_negT, br_b_0, br_b_1, Int32.toInt_toInt64, pk_lT, br_lnegT, cN] <;> omega)); done)))
            | (refine rs_out_T ?_ ?_; (focus ((first | rfl | assumption | exact fun z => z rfl | omega | (simp (disch := omega) only [not_true_eq_false, not_false_eq_true, br_u_s, br_u_n, br_u_q, nI_eq, nI_clamp, nI_add, pk_mul, br_R17, br_S17, pk_sub_toInt, br_ltT, br_leT, br_inT, br_nT, br_negT, br_b_0, br_b_1, Int32.toInt_toInt64, pk_lT, br_lnegT, cN] <;> omega)); done)))
            | (refine rs_noChild_F (N := N) ?_ ?_ ?_ ?_; (focus ((first | rfl | assumption | exact fun z => z rfl | omega | (simp (disch := omega) only [not_true_eq_false, not_false_eq_true, br_u_s, br_u_n, br_u_q, nI_eq, nI_clamp, nI_add, pk_mul, br_R17, br_S17, pk_sub_toInt, br_ltT, br_leT, br_inT, br_nT, br_negT, br_b_0, br_b_1, Int32.toInt_toInt64, pk_lT, br_lnegT, cN] <;> omega)); done)); (focus ((first | rfl | assumption | exact fun z => z rfl | omega | (simp (disch := omega) only [not_true_eq_false, not_false_eq_true, br_u_s, br_u_n, br_u_q, nI_eq, nI_clamp, nI_add, pk_mul, br_R17, br_S17, pk_sub_toInt, br_ltT, br_leT, br_inT, br_nT, br_negT, br_b_0, br_b_1, Int32.toInt_toInt64, pk_lT, br_lnegT, cN] <;> omega)); done)); (focus ((first | rfl | assumption | exact fun z => z rfl | omega | (simp (disch := omega) only [not_true_eq_false, not_false_eq_true, br_u_s, br_u_n, br_u_q, nI_eq, nI_clamp, nI_add, pk_mul, br_R17, br_S17, pk_sub_toInt, br_ltT, br_leT, br_inT, br_nT, br_negT, br_b_0, br_b_1, Int32.toInt_toInt64, pk_lT, br_lnegT, cN] <;> omega)); done)))
            | (refine rs_noChild_T (N := N) ?_ ?_ ?_ ?_; (focus ((first | rfl | assumption | exact fun z => z rfl | omega | (simp (disch := omega) only [not_true_eq_false, not_false_eq_true, br_u_s, br_u_n, br_u_q, nI_eq, nI_clamp, nI_add, pk_mul, br_R17, br_S17, pk_sub_toInt, br_ltT, br_leT, br_inT, br_nT, br_negT, br_b_0, br_b_1, Int32.toInt_toInt64, pk_lT, br_lnegT, cN] <;> omega)); done)); (focus ((first | rfl | assumption | exact fun z => z rfl | omega | (simp (disch := omega) only [not_true_eq_false, not_false_eq_true, br_u_s, br_u_n, br_u_q, nI_eq, nI_clamp, nI_add, pk_mul, br_R17, br_S17, pk_sub_toInt, br_ltT, br_leT, br_inT, br_nT, br_negT, br_b_0, br_b_1, Int32.toInt_toInt64, pk_lT, br_lnegT, cN] <;> omega)); done)); (focus ((first | rfl | assumption | exact fun z => z rfl | omega | (simp (disch := omega) only [not_true_eq_false, not_false_eq_true, br_u_s, br_u_n, br_u_q, nI_eq, nI_clamp, nI_add, pk_mul, br_R17, br_S17, pk_sub_toInt, br_ltT, br_leT, br_inT, br_nT, br_negT, br_b_0, br_b_1, Int32.toInt_toInt64, pk_lT, br_lnegT, cN] <;> omega)); done)))
            | (refine rs_noTest_F ?_ ?_; (focus ((first | rfl | assumption | exact fun z => z rfl | omega | (simp (disch := omega) only [not_true_eq_false, not_false_eq_true, br_u_s, br_u_n, br_u_q, nI_eq, nI_clamp, nI_add, pk_mul, br_R17, br_S17, pk_sub_toInt, br_ltT, br_leT, br_inT, br_nT, br_negT, br_b_0, br_b_1, Int32.toInt_toInt64, pk_lT, br_lnegT, cN] <;> omega)); done)))
            | (refine rs_noTest_T ?_ ?_; (focus ((first | rfl | assumption | exact fun z => z rfl | omega | (simp (disch := omega) only [not_true_eq_false, not_false_eq_true, br_u_s, br_u_n, br_u_q, nI_eq, nI_clamp, nI_add, pk_mul, br_R17, br_S17, pk_sub_toInt, br_ltT, br_leT, br_inT, br_nT, br_negT, br_b_0, br_b_1, Int32.toInt_toInt64, pk_lT, br_lnegT, cN] <;> omega)); done)))
            | (refine rs_refuse ?_ ?_; (focus ((first | rfl | assumption | exact fun z => z rfl | omega | (simp (disch := omega) only [not_true_eq_false, not_false_eq_true, br_u_s, br_u_n, br_u_q, nI_eq, nI_clamp, nI_add, pk_mul, br_R17, br_S17, pk_sub_toInt, br_ltT, br_leT, br_inT, br_nT, br_negT, br_b_0, br_b_1, Int32.toInt_toInt64, pk_lT, br_lnegT, cN] <;> omega)); done)))
            | (refine And.intro ?_ ?_; (focus ((first | rfl | assumption | exact fun z => z rfl | omega | (simp (disch := omega) only [not_true_eq_false, not_false_eq_true, br_u_s, br_u_n, br_u_q, nI_eq, nI_clamp, nI_add, pk_mul, br_R17, br_S17, pk_sub_toInt, br_ltT, br_leT, br_inT, br_nT, br_negT, br_b_0, br_b_1, Int32.toInt_toInt64, pk_lT, br_lnegT, cN] <;> omega)); done))))
        · repeat (first
            | exact H
            | (refine br_t ?_ ?_; (focus ((first | rfl | assumption | exact fun z => z rfl | omega | (simp (disch := omega) only [not_true_eq_false, not_false_eq_true, br_u_s, br_u_n, br_u_q, nI_eq, nI_clamp, nI_add, pk_mul, br_R17, br_S17, pk_sub_toInt, br_ltT, br_leT, br_inT, br_nT, br_negT, br_b_0, br_b_1, Int32.toInt_toInt64, pk_lT, br_lnegT, eN] <;> omega)); done)))
            | (refine br_f ?_ ?_; (focus ((first | rfl | assumption | exact fun z => z rfl | omega | (simp (disch := omega) only [not_true_eq_false, not_false_eq_true, br_u_s, br_u_n, br_u_q, nI_eq, nI_clamp, nI_add, pk_mul, br_R17, br_S17, pk_sub_toInt, br_ltT, br_leT, br_inT, br_nT, br_negT, br_b_0, br_b_1, Int32.toInt_toInt64, pk_lT, br_lnegT, eN] <;> omega)); done)))
            | refine rb_M_read_0 ?_
            | refine rb_M_read_9 ?_
            | refine rb_M_read_16 ?_
            | refine rb_M_read_28 ?_
            | refine rb_M_read_37 ?_
            | refine rb_M_read_49 ?_
            | refine rb_M_read_57 ?_
            | refine rb_M_read_63 ?_
            | refine rb_M_read_91 ?_
            | refine rb_M_read_94 ?_
            | refine rb_M_read_116 ?_
            | refine rb_M_read_126 ?_
            | refine rb_M_read_129 ?_
            | refine rb_M_read_133 ?_
            | (refine rs_wi_T ?_ ?_; (focus ((first | rfl | assumption | exact fun z => z rfl | omega | (simp (disch := omega) only [not_true_eq_false, not_false_eq_true, br_u_s, br_u_n, br_u_q, nI_eq, nI_clamp, nI_add, pk_mul, br_R17, br_S17, pk_sub_toInt, br_ltT, br_leT, br_inT, br_nT, br_negT, br_b_0, br_b_1, Int32.toInt_toInt64, pk_lT, br_lnegT, eN] <;> omega)); done)))
            | (refine rs_wi_F ?_ ?_; (focus ((first | rfl | assumption | exact fun z => z rfl | omega | (simp (disch := omega) only [not_true_eq_false, not_false_eq_true, br_u_s, br_u_n, br_u_q, nI_eq, nI_clamp, nI_add, pk_mul, br_R17, br_S17, pk_sub_toInt, br_ltT, br_leT, br_inT, br_nT, br_negT, br_b_0, br_b_1, Int32.toInt_toInt64, pk_lT, br_lnegT, eN] <;> omega)); done)))
            | (refine rs_isChild_T (N := N) ?_ ?_ ?_ ?_; (focus ((first | rfl | assumption | exact fun z => z rfl | omega | (simp (disch := omega) only [not_true_eq_false, not_false_eq_true, br_u_s, br_u_n, br_u_q, nI_eq, nI_clamp, nI_add, pk_mul, br_R17, br_S17, pk_sub_toInt, br_ltT, br_leT, br_inT, br_nT, br_negT, br_b_0, br_b_1, Int32.toInt_toInt64, pk_lT, br_lnegT, eN] <;> omega)); done)); (focus ((first | rfl | assumption | exact fun z => z rfl | omega | (simp (disch := omega) only [not_true_eq_false, not_false_eq_true, br_u_s, br_u_n, br_u_q, nI_eq, nI_clamp, nI_add, pk_mul, br_R17, br_S17, pk_sub_toInt, br_ltT, br_leT, br_inT, br_nT, br_negT, br_b_0, br_b_1, Int32.toInt_toInt64, pk_lT, br_lnegT, eN] <;> omega)); done)); (focus ((first | rfl | assumption | exact fun z => z rfl | omega | (simp (disch := omega) only [not_true_eq_false, not_false_eq_true, br_u_s, br_u_n, br_u_q, nI_eq, nI_clamp, nI_add, pk_mul, br_R17, br_S17, pk_sub_toInt, br_ltT, br_leT, br_inT, br_nT, br_negT, br_b_0, br_b_1, Int32.toInt_toInt64, pk_lT, br_lnegT, eN] <;> omega)); done)))
            | (refine rs_isChild_F (N := N) ?_ ?_ ?_ ?_; (focus ((first | rfl | assumption | exact fun z => z rfl | omega | (simp (disch := omega) only [not_true_eq_false, not_false_eq_true, br_u_s, br_u_n, br_u_q, nI_eq, nI_clamp, nI_add, pk_mul, br_R17, br_S17, pk_sub_toInt, br_ltT, br_leT, br_inT, br_nT, br_negT, br_b_0, br_b_1, Int32.toInt_toInt64, pk_lT, br_lnegT, eN] <;> omega)); done)); (focus ((first | rfl | assumption | exact fun z => z rfl | omega | (simp (disch := omega) only [not_true_eq_false, not_false_eq_true, br_u_s, br_u_n, br_u_q, nI_eq, nI_clamp, nI_add, pk_mul, br_R17, br_S17, pk_sub_toInt, br_ltT, br_leT, br_inT, br_nT, br_negT, br_b_0, br_b_1, Int32.toInt_toInt64, pk_lT, br_lnegT, eN] <;> omega)); done)); (focus ((first | rfl | assumption | exact fun z => z rfl | omega | (simp (disch := omega) only [not_true_eq_false, not_false_eq_true, br_u_s, br_u_n, br_u_q, nI_eq, nI_clamp, nI_add, pk_mul, br_R17, br_S17, pk_sub_toInt, br_ltT, br_leT, br_inT, br_nT, br_negT, br_b_0, br_b_1, Int32.toInt_toInt64, pk_lT, br_lnegT, eN] <;> omega)); done)))
            | (refine rs_isTest_T ?_ ?_; (focus ((first | rfl | assumption | exact fun z => z rfl | omega | (simp (disch := omega) only [not_true_eq_false, not_false_eq_true, br_u_s, br_u_n, br_u_q, nI_eq, nI_clamp, nI_add, pk_mul, br_R17, br_S17, pk_sub_toInt, br_ltT, br_leT, br_inT, br_nT, br_negT, br_b_0, br_b_1, Int32.toInt_toInt64, pk_lT, br_lnegT, eN] <;> omega)); done)))
            | (refine rs_isTest_F ?_ ?_; (focus ((first | rfl | assumption | exact fun z => z rfl | omega | (simp (disch := omega) only [not_true_eq_false, not_false_eq_true, br_u_s, br_u_n, br_u_q, nI_eq, nI_clamp, nI_add, pk_mul, br_R17, br_S17, pk_sub_toInt, br_ltT, br_leT, br_inT, br_nT, br_negT, br_b_0, br_b_1, Int32.toInt_toInt64, pk_lT, br_lnegT, eN] <;> omega)); done)))
            | (refine rs_no ?_ ?_; (focus ((first | rfl | assumption | exact fun z => z rfl | omega | (simp (disch := omega) only [not_true_eq_false, not_false_eq_true, br_u_s, br_u_n, br_u_q, nI_eq, nI_clamp, nI_add, pk_mul, br_R17, br_S17, pk_sub_toInt, br_ltT, br_leT, br_inT, br_nT, br_negT, br_b_0, br_b_1, Int32.toInt_toInt64, pk_lT, br_lnegT, eN] <;> omega)); done)))
            | (refine rs_pointOf ?_ ?_ ?_; (focus ((first | rfl | assumption | exact fun z => z rfl | omega | (simp (disch := omega) only [not_true_eq_false, not_false_eq_true, br_u_s, br_u_n, br_u_q, nI_eq, nI_clamp, nI_add, pk_mul, br_R17, br_S17, pk_sub_toInt, br_ltT, br_leT, br_inT, br_nT, br_negT, br_b_0, br_b_1, Int32.toInt_toInt64, pk_lT, br_lnegT, eN] <;> omega)); done)); (focus ((first | rfl | assumption | exact fun z => z rfl | omega | (simp (disch := omega) only [not_true_eq_false, not_false_eq_true, br_u_s, br_u_n, br_u_q, nI_eq, nI_clamp, nI_add, pk_mul, br_R17, br_S17, pk_sub_toInt, br_ltT, br_leT, br_inT, br_nT, br_negT, br_b_0, br_b_1, Int32.toInt_toInt64, pk_lT, br_lnegT, eN] <;> omega)); done)))
            | (refine And.intro ?_ ?_; (focus ((first | rfl | assumption | exact fun z => z rfl | omega | (simp (disch := omega) only [not_true_eq_false, not_false_eq_true, br_u_s, br_u_n, br_u_q, nI_eq, nI_clamp, nI_add, pk_mul, br_R17, br_S17, pk_sub_toInt, br_ltT, br_leT, br_inT, br_nT, br_negT, br_b_0, br_b_1, Int32.toInt_toInt64, pk_lT, br_lnegT, eN] <;> omega)); done))))
    · refine br_pair_no hI (k := 2) (by omega) (v := -(nI 2)) (fun d Q H => ?_) (fun d Q H => ?_)
      · repeat (first
          | exact H
          | (refine br_t ?_ ?_; (focus ((first | rfl | assumption | exact fun z => z rfl | omega | (simp (disch := omega) only [not_true_eq_false, not_false_eq_true, br_u_s, br_u_n, br_u_q, nI_eq, nI_clamp, nI_add, pk_mul, br_R17, br_S17, pk_sub_toInt, br_ltT, br_leT, br_inT, br_nT, br_negT, br_b_0, br_b_1, Int32.toInt_toInt64, pk_lT, br_lnegT, cN] <;> omega)); done)))
          | (refine br_f ?_ ?_; (focus ((first | rfl | assumption | exact fun z => z rfl | omega | (simp (disch := omega) only [not_true_eq_false, not_false_eq_true, br_u_s, br_u_n, br_u_q, nI_eq, nI_clamp, nI_add, pk_mul, br_R17, br_S17, pk_sub_toInt, br_ltT, br_leT, br_inT, br_nT, br_negT, br_b_0, br_b_1, Int32.toInt_toInt64, pk_lT, br_lnegT, cN] <;> omega)); done)))
          | refine rb_A_read_0 ?_
          | refine rb_A_read_4 ?_
          | refine rb_A_read_11 ?_
          | refine rb_A_read_20 ?_
          | refine rb_A_read_28 ?_
          | refine rb_A_read_39 ?_
          | refine rb_A_read_54 ?_
          | refine rb_A_read_82 ?_
          | refine rb_A_read_97 ?_
          | (refine rs_out_F ?_ ?_; (focus ((first | rfl | assumption | exact fun z => z rfl | omega | (simp (disch := omega) only [not_true_eq_false, not_false_eq_true, br_u_s, br_u_n, br_u_q, nI_eq, nI_clamp, nI_add, pk_mul, br_R17, br_S17, pk_sub_toInt, br_ltT, br_leT, br_inT, br_nT, br_negT, br_b_0, br_b_1, Int32.toInt_toInt64, pk_lT, br_lnegT, cN] <;> omega)); done)))
          | (refine rs_out_T ?_ ?_; (focus ((first | rfl | assumption | exact fun z => z rfl | omega | (simp (disch := omega) only [not_true_eq_false, not_false_eq_true, br_u_s, br_u_n, br_u_q, nI_eq, nI_clamp, nI_add, pk_mul, br_R17, br_S17, pk_sub_toInt, br_ltT, br_leT, br_inT, br_nT, br_negT, br_b_0, br_b_1, Int32.toInt_toInt64, pk_lT, br_lnegT, cN] <;> omega)); done)))
          | (refine rs_noChild_F (N := N) ?_ ?_ ?_ ?_; (focus ((first | rfl | assumption | exact fun z => z rfl | omega | (simp (disch := omega) only [not_true_eq_false, not_false_eq_true, br_u_s, br_u_n, br_u_q, nI_eq, nI_clamp, nI_add, pk_mul, br_R17, br_S17, pk_sub_toInt, br_ltT, br_leT, br_inT, br_nT, br_negT, br_b_0, br_b_1, Int32.toInt_toInt64, pk_lT, br_lnegT, cN] <;> omega)); done)); (focus ((first | rfl | assumption | exact fun z => z rfl | omega | (simp (disch := omega) only [not_true_eq_false, not_false_eq_true, br_u_s, br_u_n, br_u_q, nI_eq, nI_clamp, nI_add, pk_mul, br_R17, br_S17, pk_sub_toInt, br_ltT, br_leT, br_inT, br_nT, br_negT, br_b_0, br_b_1, Int32.toInt_toInt64, pk_lT, br_lnegT, cN] <;> omega)); done)); (focus ((first | rfl | assumption | exact fun z => z rfl | omega | (simp (disch := omega) only [not_true_eq_false, not_false_eq_true, br_u_s, br_u_n, br_u_q, nI_eq, nI_clamp, nI_add, pk_mul, br_R17, br_S17, pk_sub_toInt, br_ltT, br_leT, br_inT, br_nT, br_negT, br_b_0, br_b_1, Int32.toInt_toInt64, pk_lT, br_lnegT, cN] <;> omega)); done)))
          | (refine rs_noChild_T (N := N) ?_ ?_ ?_ ?_; (focus ((first | rfl | assumption | exact fun z => z rfl | omega | (simp (disch := omega) only [not_true_eq_false, not_false_eq_true, br_u_s, br_u_n, br_u_q, nI_eq, nI_clamp, nI_add, pk_mul, br_R17, br_S17, pk_sub_toInt, br_ltT, br_leT, br_inT, br_nT, br_negT, br_b_0, br_b_1, Int32.toInt_toInt64, pk_lT, br_lnegT, cN] <;> omega)); done)); (focus ((first | rfl | assumption | exact fun z => z rfl | omega | (simp (disch := omega) only [not_true_eq_false, not_false_eq_true, br_u_s, br_u_n, br_u_q, nI_eq, nI_clamp, nI_add, pk_mul, br_R17, br_S17, pk_sub_toInt, br_ltT, br_leT, br_inT, br_nT, br_negT, br_b_0, br_b_1, Int32.toInt_toInt64, pk_lT, br_lnegT, cN] <;> omega)); done)); (focus ((first | rfl | assumption | exact fun z => z rfl | omega | (simp (disch := omega) only [not_true_eq_false, not_false_eq_true, br_u_s, br_u_n, br_u_q, nI_eq, nI_clamp, nI_add, pk_mul, br_R17, br_S17, pk_sub_toInt, br_ltT, br_leT, br_inT, br_nT, br_negT, br_b_0, br_b_1, Int32.toInt_toInt64, pk_lT, br_lnegT, cN] <;> omega)); done)))
          | (refine rs_noTest_F ?_ ?_; (focus ((first | rfl | assumption | exact fun z => z rfl | omega | (simp (disch := omega) only [not_true_eq_false, not_false_eq_true, br_u_s, br_u_n, br_u_q, nI_eq, nI_clamp, nI_add, pk_mul, br_R17, br_S17, pk_sub_toInt, br_ltT, br_leT, br_inT, br_nT, br_negT, br_b_0, br_b_1, Int32.toInt_toInt64, pk_lT, br_lnegT, cN] <;> omega)); done)))
          | (refine rs_noTest_T ?_ ?_; (focus ((first | rfl | assumption | exact fun z => z rfl | omega | (simp (disch := omega) only [not_true_eq_false, not_false_eq_true, br_u_s, br_u_n, br_u_q, nI_eq, nI_clamp, nI_add, pk_mul, br_R17, br_S17, pk_sub_toInt, br_ltT, br_leT, br_inT, br_nT, br_negT, br_b_0, br_b_1, Int32.toInt_toInt64, pk_lT, br_lnegT, cN] <;> omega)); done)))
          | (refine rs_refuse ?_ ?_; (focus ((first | rfl | assumption | exact fun z => z rfl | omega | (simp (disch := omega) only [not_true_eq_false, not_false_eq_true, br_u_s, br_u_n, br_u_q, nI_eq, nI_clamp, nI_add, pk_mul, br_R17, br_S17, pk_sub_toInt, br_ltT, br_leT, br_inT, br_nT, br_negT, br_b_0, br_b_1, Int32.toInt_toInt64, pk_lT, br_lnegT, cN] <;> omega)); done)))
          | (refine And.intro ?_ ?_; (focus ((first | rfl | assumption | exact fun z => z rfl | omega | (simp (disch := omega) only [not_true_eq_false, not_false_eq_true, br_u_s, br_u_n, br_u_q, nI_eq, nI_clamp, nI_add, pk_mul, br_R17, br_S17, pk_sub_toInt, br_ltT, br_leT, br_inT, br_nT, br_negT, br_b_0, br_b_1, Int32.toInt_toInt64, pk_lT, br_lnegT, cN] <;> omega)); done))))
      · repeat (first
          | exact H
          | (refine br_t ?_ ?_; (focus ((first | rfl | assumption | exact fun z => z rfl | omega | (simp (disch := omega) only [not_true_eq_false, not_false_eq_true, br_u_s, br_u_n, br_u_q, nI_eq, nI_clamp, nI_add, pk_mul, br_R17, br_S17, pk_sub_toInt, br_ltT, br_leT, br_inT, br_nT, br_negT, br_b_0, br_b_1, Int32.toInt_toInt64, pk_lT, br_lnegT, eN] <;> omega)); done)))
          | (refine br_f ?_ ?_; (focus ((first | rfl | assumption | exact fun z => z rfl | omega | (simp (disch := omega) only [not_true_eq_false, not_false_eq_true, br_u_s, br_u_n, br_u_q, nI_eq, nI_clamp, nI_add, pk_mul, br_R17, br_S17, pk_sub_toInt, br_ltT, br_leT, br_inT, br_nT, br_negT, br_b_0, br_b_1, Int32.toInt_toInt64, pk_lT, br_lnegT, eN] <;> omega)); done)))
          | refine rb_M_read_0 ?_
          | refine rb_M_read_9 ?_
          | refine rb_M_read_16 ?_
          | refine rb_M_read_28 ?_
          | refine rb_M_read_37 ?_
          | refine rb_M_read_49 ?_
          | refine rb_M_read_57 ?_
          | refine rb_M_read_63 ?_
          | refine rb_M_read_91 ?_
          | refine rb_M_read_94 ?_
          | refine rb_M_read_116 ?_
          | refine rb_M_read_126 ?_
          | refine rb_M_read_129 ?_
          | refine rb_M_read_133 ?_
          | (refine rs_wi_T ?_ ?_; (focus ((first | rfl | assumption | exact fun z => z rfl | omega | (simp (disch := omega) only [not_true_eq_false, not_false_eq_true, br_u_s, br_u_n, br_u_q, nI_eq, nI_clamp, nI_add, pk_mul, br_R17, br_S17, pk_sub_toInt, br_ltT, br_leT, br_inT, br_nT, br_negT, br_b_0, br_b_1, Int32.toInt_toInt64, pk_lT, br_lnegT, eN] <;> omega)); done)))
          | (refine rs_wi_F ?_ ?_; (focus ((first | rfl | assumption | exact fun z => z rfl | omega | (simp (disch := omega) only [not_true_eq_false, not_false_eq_true, br_u_s, br_u_n, br_u_q, nI_eq, nI_clamp, nI_add, pk_mul, br_R17, br_S17, pk_sub_toInt, br_ltT, br_leT, br_inT, br_nT, br_negT, br_b_0, br_b_1, Int32.toInt_toInt64, pk_lT, br_lnegT, eN] <;> omega)); done)))
          | (refine rs_isChild_T (N := N) ?_ ?_ ?_ ?_; (focus ((first | rfl | assumption | exact fun z => z rfl | omega | (simp (disch := omega) only [not_true_eq_false, not_false_eq_true, br_u_s, br_u_n, br_u_q, nI_eq, nI_clamp, nI_add, pk_mul, br_R17, br_S17, pk_sub_toInt, br_ltT, br_leT, br_inT, br_nT, br_negT, br_b_0, br_b_1, Int32.toInt_toInt64, pk_lT, br_lnegT, eN] <;> omega)); done)); (focus ((first | rfl | assumption | exact fun z => z rfl | omega | (simp (disch := omega) only [not_true_eq_false, not_false_eq_true, br_u_s, br_u_n, br_u_q, nI_eq, nI_clamp, nI_add, pk_mul, br_R17, br_S17, pk_sub_toInt, br_ltT, br_leT, br_inT, br_nT, br_negT, br_b_0, br_b_1, Int32.toInt_toInt64, pk_lT, br_lnegT, eN] <;> omega)); done)); (focus ((first | rfl | assumption | exact fun z => z rfl | omega | (simp (disch := omega) only [not_true_eq_false, not_false_eq_true, br_u_s, br_u_n, br_u_q, nI_eq, nI_clamp, nI_add, pk_mul, br_R17, br_S17, pk_sub_toInt, br_ltT, br_leT, br_inT, br_nT, br_negT, br_b_0, br_b_1, Int32.toInt_toInt64, pk_lT, br_lnegT, eN] <;> omega)); done)))
          | (refine rs_isChild_F (N := N) ?_ ?_ ?_ ?_; (focus ((first | rfl | assumption | exact fun z => z rfl | omega | (simp (disch := omega) only [not_true_eq_false, not_false_eq_true, br_u_s, br_u_n, br_u_q, nI_eq, nI_clamp, nI_add, pk_mul, br_R17, br_S17, pk_sub_toInt, br_ltT, br_leT, br_inT, br_nT, br_negT, br_b_0, br_b_1, Int32.toInt_toInt64, pk_lT, br_lnegT, eN] <;> omega)); done)); (focus ((first | rfl | assumption | exact fun z => z rfl | omega | (simp (disch := omega) only [not_true_eq_false, not_false_eq_true, br_u_s, br_u_n, br_u_q, nI_eq, nI_clamp, nI_add, pk_mul, br_R17, br_S17, pk_sub_toInt, br_ltT, br_leT, br_inT, br_nT, br_negT, br_b_0, br_b_1, Int32.toInt_toInt64, pk_lT, br_lnegT, eN] <;> omega)); done)); (focus ((first | rfl | assumption | exact fun z => z rfl | omega | (simp (disch := omega) only [not_true_eq_false, not_false_eq_true, br_u_s, br_u_n, br_u_q, nI_eq, nI_clamp, nI_add, pk_mul, br_R17, br_S17, pk_sub_toInt, br_ltT, br_leT, br_inT, br_nT, br_negT, br_b_0, br_b_1, Int32.toInt_toInt64, pk_lT, br_lnegT, eN] <;> omega)); done)))
          | (refine rs_isTest_T ?_ ?_; (focus ((first | rfl | assumption | exact fun z => z rfl | omega | (simp (disch := omega) only [not_true_eq_false, not_false_eq_true, br_u_s, br_u_n, br_u_q, nI_eq, nI_clamp, nI_add, pk_mul, br_R17, br_S17, pk_sub_toInt, br_ltT, br_leT, br_inT, br_nT, br_negT, br_b_0, br_b_1, Int32.toInt_toInt64, pk_lT, br_lnegT, eN] <;> omega)); done)))
          | (refine rs_isTest_F ?_ ?_; (focus ((first | rfl | assumption | exact fun z => z rfl | omega | (simp (disch := omega) only [not_true_eq_false, not_false_eq_true, br_u_s, br_u_n, br_u_q, nI_eq, nI_clamp, nI_add, pk_mul, br_R17, br_S17, pk_sub_toInt, br_ltT, br_leT, br_inT, br_nT, br_negT, br_b_0, br_b_1, Int32.toInt_toInt64, pk_lT, br_lnegT, eN] <;> omega)); done)))
          | (refine rs_no ?_ ?_; (focus ((first | rfl | assumption | exact fun z => z rfl | omega | (simp (disch := omega) only [not_true_eq_false, not_false_eq_true, br_u_s, br_u_n, br_u_q, nI_eq, nI_clamp, nI_add, pk_mul, br_R17, br_S17, pk_sub_toInt, br_ltT, br_leT, br_inT, br_nT, br_negT, br_b_0, br_b_1, Int32.toInt_toInt64, pk_lT, br_lnegT, eN] <;> omega)); done)))
          | (refine rs_pointOf ?_ ?_ ?_; (focus ((first | rfl | assumption | exact fun z => z rfl | omega | (simp (disch := omega) only [not_true_eq_false, not_false_eq_true, br_u_s, br_u_n, br_u_q, nI_eq, nI_clamp, nI_add, pk_mul, br_R17, br_S17, pk_sub_toInt, br_ltT, br_leT, br_inT, br_nT, br_negT, br_b_0, br_b_1, Int32.toInt_toInt64, pk_lT, br_lnegT, eN] <;> omega)); done)); (focus ((first | rfl | assumption | exact fun z => z rfl | omega | (simp (disch := omega) only [not_true_eq_false, not_false_eq_true, br_u_s, br_u_n, br_u_q, nI_eq, nI_clamp, nI_add, pk_mul, br_R17, br_S17, pk_sub_toInt, br_ltT, br_leT, br_inT, br_nT, br_negT, br_b_0, br_b_1, Int32.toInt_toInt64, pk_lT, br_lnegT, eN] <;> omega)); done)))
          | (refine And.intro ?_ ?_; (focus ((first | rfl | assumption | exact fun z => z rfl | omega | (simp (disch := omega) only [not_true_eq_false, not_false_eq_true, br_u_s, br_u_n, br_u_q, nI_eq, nI_clamp, nI_add, pk_mul, br_R17, br_S17, pk_sub_toInt, br_ltT, br_leT, br_inT, br_nT, br_negT, br_b_0, br_b_1, Int32.toInt_toInt64, pk_lT, br_lnegT, eN] <;> omega)); done))))
  · refine br_pair_no hI (k := 2) (by omega) (v := -(nI 2)) (fun d Q H => ?_) (fun d Q H => ?_)
    · repeat (first
        | exact H
        | (refine br_t ?_ ?_; (focus ((first | rfl | assumption | exact fun z => z rfl | omega | (simp (disch := omega) only [not_true_eq_false, not_false_eq_true, br_u_s, br_u_n, br_u_q, nI_eq, nI_clamp, nI_add, pk_mul, br_R17, br_S17, pk_sub_toInt, br_ltT, br_leT, br_inT, br_nT, br_negT, br_b_0, br_b_1, Int32.toInt_toInt64, pk_lT, br_lnegT, cN] <;> omega)); done)))
        | (refine br_f ?_ ?_; (focus ((first | rfl | assumption | exact fun z => z rfl | omega | (simp (disch := omega) only [not_true_eq_false, not_false_eq_true, br_u_s, br_u_n, br_u_q, nI_eq, nI_clamp, nI_add, pk_mul, br_R17, br_S17, pk_sub_toInt, br_ltT, br_leT, br_inT, br_nT, br_negT, br_b_0, br_b_1, Int32.toInt_toInt64, pk_lT, br_lnegT, cN] <;> omega)); done)))
        | refine rb_A_read_0 ?_
        | refine rb_A_read_4 ?_
        | refine rb_A_read_11 ?_
        | refine rb_A_read_20 ?_
        | refine rb_A_read_28 ?_
        | refine rb_A_read_39 ?_
        | refine rb_A_read_54 ?_
        | refine rb_A_read_82 ?_
        | refine rb_A_read_97 ?_
        | (refine rs_out_F ?_ ?_; (focus ((first | rfl | assumption | exact fun z => z rfl | omega | (simp (disch := omega) only [not_true_eq_false, not_false_eq_true, br_u_s, br_u_n, br_u_q, nI_eq, nI_clamp, nI_add, pk_mul, br_R17, br_S17, pk_sub_toInt, br_ltT, br_leT, br_inT, br_nT, br_negT, br_b_0, br_b_1, Int32.toInt_toInt64, pk_lT, br_lnegT, cN] <;> omega)); done)))
        | (refine rs_out_T ?_ ?_; (focus ((first | rfl | assumption | exact fun z => z rfl | omega | (simp (disch := omega) only [not_true_eq_false, not_false_eq_true, br_u_s, br_u_n, br_u_q, nI_eq, nI_clamp, nI_add, pk_mul, br_R17, br_S17, pk_sub_toInt, br_ltT, br_leT, br_inT, br_nT, br_negT, br_b_0, br_b_1, Int32.toInt_toInt64, pk_lT, br_lnegT, cN] <;> omega)); done)))
        | (refine rs_noChild_F (N := N) ?_ ?_ ?_ ?_; (focus ((first | rfl | assumption | exact fun z => z rfl | omega | (simp (disch := omega) only [not_true_eq_false, not_false_eq_true, br_u_s, br_u_n, br_u_q, nI_eq, nI_clamp, nI_add, pk_mul, br_R17, br_S17, pk_sub_toInt, br_ltT, br_leT, br_inT, br_nT, br_negT, br_b_0, br_b_1, Int32.toInt_toInt64, pk_lT, br_lnegT, cN] <;> omega)); done)); (focus ((first | rfl | assumption | exact fun z => z rfl | omega | (simp (disch := omega) only [not_true_eq_false, not_false_eq_true, br_u_s, br_u_n, br_u_q, nI_eq, nI_clamp, nI_add, pk_mul, br_R17, br_S17, pk_sub_toInt, br_ltT, br_leT, br_inT, br_nT, br_negT, br_b_0, br_b_1, Int32.toInt_toInt64, pk_lT, br_lnegT, cN] <;> omega)); done)); (focus ((first | rfl | assumption | exact fun z => z rfl | omega | (simp (disch := omega) only [not_true_eq_false, not_false_eq_true, br_u_s, br_u_n, br_u_q, nI_eq, nI_clamp, nI_add, pk_mul, br_R17, br_S17, pk_sub_toInt, br_ltT, br_leT, br_inT, br_nT, br_negT, br_b_0, br_b_1, Int32.toInt_toInt64, pk_lT, br_lnegT, cN] <;> omega)); done)))
        | (refine rs_noChild_T (N := N) ?_ ?_ ?_ ?_; (focus ((first | rfl | assumption | exact fun z => z rfl | omega | (simp (disch := omega) only [not_true_eq_false, not_false_eq_true, br_u_s, br_u_n, br_u_q, nI_eq, nI_clamp, nI_add, pk_mul, br_R17, br_S17, pk_sub_toInt, br_ltT, br_leT, br_inT, br_nT, br_negT, br_b_0, br_b_1, Int32.toInt_toInt64, pk_lT, br_lnegT, cN] <;> omega)); done)); (focus ((first | rfl | assumption | exact fun z => z rfl | omega | (simp (disch := omega) only [not_true_eq_false, not_false_eq_true, br_u_s, br_u_n, br_u_q, nI_eq, nI_clamp, nI_add, pk_mul, br_R17, br_S17, pk_sub_toInt, br_ltT, br_leT, br_inT, br_nT, br_negT, br_b_0, br_b_1, Int32.toInt_toInt64, pk_lT, br_lnegT, cN] <;> omega)); done)); (focus ((first | rfl | assumption | exact fun z => z rfl | omega | (simp (disch := omega) only [not_true_eq_false, not_false_eq_true, br_u_s, br_u_n, br_u_q, nI_eq, nI_clamp, nI_add, pk_mul, br_R17, br_S17, pk_sub_toInt, br_ltT, br_leT, br_inT, br_nT, br_negT, br_b_0, br_b_1, Int32.toInt_toInt64, pk_lT, br_lnegT, cN] <;> omega)); done)))
        | (refine rs_noTest_F ?_ ?_; (focus ((first | rfl | assumption | exact fun z => z rfl | omega | (simp (disch := omega) only [not_true_eq_false, not_false_eq_true, br_u_s, br_u_n, br_u_q, nI_eq, nI_clamp, nI_add, pk_mul, br_R17, br_S17, pk_sub_toInt, br_ltT, br_leT, br_inT, br_nT, br_negT, br_b_0, br_b_1, Int32.toInt_toInt64, pk_lT, br_lnegT, cN] <;> omega)); done)))
        | (refine rs_noTest_T ?_ ?_; (focus ((first | rfl | assumption | exact fun z => z rfl | omega | (simp (disch := omega) only [not_true_eq_false, not_false_eq_true, br_u_s, br_u_n, br_u_q, nI_eq, nI_clamp, nI_add, pk_mul, br_R17, br_S17, pk_sub_toInt, br_ltT, br_leT, br_inT, br_nT, br_negT, br_b_0, br_b_1, Int32.toInt_toInt64, pk_lT, br_lnegT, cN] <;> omega)); done)))
        | (refine rs_refuse ?_ ?_; (focus ((first | rfl | assumption | exact fun z => z rfl | omega | (simp (disch := omega) only [not_true_eq_false, not_false_eq_true, br_u_s, br_u_n, br_u_q, nI_eq, nI_clamp, nI_add, pk_mul, br_R17, br_S17, pk_sub_toInt, br_ltT, br_leT, br_inT, br_nT, br_negT, br_b_0, br_b_1, Int32.toInt_toInt64, pk_lT, br_lnegT, cN] <;> omega)); done)))
        | (refine And.intro ?_ ?_; (focus ((first | rfl | assumption | exact fun z => z rfl | omega | (simp (disch := omega) only [not_true_eq_false, not_false_eq_true, br_u_s, br_u_n, br_u_q, nI_eq, nI_clamp, nI_add, pk_mul, br_R17, br_S17, pk_sub_toInt, br_ltT, br_leT, br_inT, br_nT, br_negT, br_b_0, br_b_1, Int32.toInt_toInt64, pk_lT, br_lnegT, cN] <;> omega)); done))))
    · repeat (first
        | exact H
        | (refine br_t ?_ ?_; (focus ((first | rfl | assumption | exact fun z => z rfl | omega | (simp (disch := omega) only [not_true_eq_false, not_false_eq_true, br_u_s, br_u_n, br_u_q, nI_eq, nI_clamp, nI_add, pk_mul, br_R17, br_S17, pk_sub_toInt, br_ltT, br_leT, br_inT, br_nT, br_negT, br_b_0, br_b_1, Int32.toInt_toInt64, pk_lT, br_lnegT, eN] <;> omega)); done)))
        | (refine br_f ?_ ?_; (focus ((first | rfl | assumption | exact fun z => z rfl | omega | (simp (disch := omega) only [not_true_eq_false, not_false_eq_true, br_u_s, br_u_n, br_u_q, nI_eq, nI_clamp, nI_add, pk_mul, br_R17, br_S17, pk_sub_toInt, br_ltT, br_leT, br_inT, br_nT, br_negT, br_b_0, br_b_1, Int32.toInt_toInt64, pk_lT, br_lnegT, eN] <;> omega)); done)))
        | refine rb_M_read_0 ?_
        | refine rb_M_read_9 ?_
        | refine rb_M_read_16 ?_
        | refine rb_M_read_28 ?_
        | refine rb_M_read_37 ?_
        | refine rb_M_read_49 ?_
        | refine rb_M_read_57 ?_
        | refine rb_M_read_63 ?_
        | refine rb_M_read_91 ?_
        | refine rb_M_read_94 ?_
        | refine rb_M_read_116 ?_
        | refine rb_M_read_126 ?_
        | refine rb_M_read_129 ?_
        | refine rb_M_read_133 ?_
        | (refine rs_wi_T ?_ ?_; (focus ((first | rfl | assumption | exact fun z => z rfl | omega | (simp (disch := omega) only [not_true_eq_false, not_false_eq_true, br_u_s, br_u_n, br_u_q, nI_eq, nI_clamp, nI_add, pk_mul, br_R17, br_S17, pk_sub_toInt, br_ltT, br_leT, br_inT, br_nT, br_negT, br_b_0, br_b_1, Int32.toInt_toInt64, pk_lT, br_lnegT, eN] <;> omega)); done)))
        | (refine rs_wi_F ?_ ?_; (focus ((first | rfl | assumption | exact fun z => z rfl | omega | (simp (disch := omega) only [not_true_eq_false, not_false_eq_true, br_u_s, br_u_n, br_u_q, nI_eq, nI_clamp, nI_add, pk_mul, br_R17, br_S17, pk_sub_toInt, br_ltT, br_leT, br_inT, br_nT, br_negT, br_b_0, br_b_1, Int32.toInt_toInt64, pk_lT, br_lnegT, eN] <;> omega)); done)))
        | (refine rs_isChild_T (N := N) ?_ ?_ ?_ ?_; (focus ((first | rfl | assumption | exact fun z => z rfl | omega | (simp (disch := omega) only [not_true_eq_false, not_false_eq_true, br_u_s, br_u_n, br_u_q, nI_eq, nI_clamp, nI_add, pk_mul, br_R17, br_S17, pk_sub_toInt, br_ltT, br_leT, br_inT, br_nT, br_negT, br_b_0, br_b_1, Int32.toInt_toInt64, pk_lT, br_lnegT, eN] <;> omega)); done)); (focus ((first | rfl | assumption | exact fun z => z rfl | omega | (simp (disch := omega) only [not_true_eq_false, not_false_eq_true, br_u_s, br_u_n, br_u_q, nI_eq, nI_clamp, nI_add, pk_mul, br_R17, br_S17, pk_sub_toInt, br_ltT, br_leT, br_inT, br_nT, br_negT, br_b_0, br_b_1, Int32.toInt_toInt64, pk_lT, br_lnegT, eN] <;> omega)); done)); (focus ((first | rfl | assumption | exact fun z => z rfl | omega | (simp (disch := omega) only [not_true_eq_false, not_false_eq_true, br_u_s, br_u_n, br_u_q, nI_eq, nI_clamp, nI_add, pk_mul, br_R17, br_S17, pk_sub_toInt, br_ltT, br_leT, br_inT, br_nT, br_negT, br_b_0, br_b_1, Int32.toInt_toInt64, pk_lT, br_lnegT, eN] <;> omega)); done)))
        | (refine rs_isChild_F (N := N) ?_ ?_ ?_ ?_; (focus ((first | rfl | assumption | exact fun z => z rfl | omega | (simp (disch := omega) only [not_true_eq_false, not_false_eq_true, br_u_s, br_u_n, br_u_q, nI_eq, nI_clamp, nI_add, pk_mul, br_R17, br_S17, pk_sub_toInt, br_ltT, br_leT, br_inT, br_nT, br_negT, br_b_0, br_b_1, Int32.toInt_toInt64, pk_lT, br_lnegT, eN] <;> omega)); done)); (focus ((first | rfl | assumption | exact fun z => z rfl | omega | (simp (disch := omega) only [not_true_eq_false, not_false_eq_true, br_u_s, br_u_n, br_u_q, nI_eq, nI_clamp, nI_add, pk_mul, br_R17, br_S17, pk_sub_toInt, br_ltT, br_leT, br_inT, br_nT, br_negT, br_b_0, br_b_1, Int32.toInt_toInt64, pk_lT, br_lnegT, eN] <;> omega)); done)); (focus ((first | rfl | assumption | exact fun z => z rfl | omega | (simp (disch := omega) only [not_true_eq_false, not_false_eq_true, br_u_s, br_u_n, br_u_q, nI_eq, nI_clamp, nI_add, pk_mul, br_R17, br_S17, pk_sub_toInt, br_ltT, br_leT, br_inT, br_nT, br_negT, br_b_0, br_b_1, Int32.toInt_toInt64, pk_lT, br_lnegT, eN] <;> omega)); done)))
        | (refine rs_isTest_T ?_ ?_; (focus ((first | rfl | assumption | exact fun z => z rfl | omega | (simp (disch := omega) only [not_true_eq_false, not_false_eq_true, br_u_s, br_u_n, br_u_q, nI_eq, nI_clamp, nI_add, pk_mul, br_R17, br_S17, pk_sub_toInt, br_ltT, br_leT, br_inT, br_nT, br_negT, br_b_0, br_b_1, Int32.toInt_toInt64, pk_lT, br_lnegT, eN] <;> omega)); done)))
        | (refine rs_isTest_F ?_ ?_; (focus ((first | rfl | assumption | exact fun z => z rfl | omega | (simp (disch := omega) only [not_true_eq_false, not_false_eq_true, br_u_s, br_u_n, br_u_q, nI_eq, nI_clamp, nI_add, pk_mul, br_R17, br_S17, pk_sub_toInt, br_ltT, br_leT, br_inT, br_nT, br_negT, br_b_0, br_b_1, Int32.toInt_toInt64, pk_lT, br_lnegT, eN] <;> omega)); done)))
        | (refine rs_no ?_ ?_; (focus ((first | rfl | assumption | exact fun z => z rfl | omega | (simp (disch := omega) only [not_true_eq_false, not_false_eq_true, br_u_s, br_u_n, br_u_q, nI_eq, nI_clamp, nI_add, pk_mul, br_R17, br_S17, pk_sub_toInt, br_ltT, br_leT, br_inT, br_nT, br_negT, br_b_0, br_b_1, Int32.toInt_toInt64, pk_lT, br_lnegT, eN] <;> omega)); done)))
        | (refine rs_pointOf ?_ ?_ ?_; (focus ((first | rfl | assumption | exact fun z => z rfl | omega | (simp (disch := omega) only [not_true_eq_false, not_false_eq_true, br_u_s, br_u_n, br_u_q, nI_eq, nI_clamp, nI_add, pk_mul, br_R17, br_S17, pk_sub_toInt, br_ltT, br_leT, br_inT, br_nT, br_negT, br_b_0, br_b_1, Int32.toInt_toInt64, pk_lT, br_lnegT, eN] <;> omega)); done)); (focus ((first | rfl | assumption | exact fun z => z rfl | omega | (simp (disch := omega) only [not_true_eq_false, not_false_eq_true, br_u_s, br_u_n, br_u_q, nI_eq, nI_clamp, nI_add, pk_mul, br_R17, br_S17, pk_sub_toInt, br_ltT, br_leT, br_inT, br_nT, br_negT, br_b_0, br_b_1, Int32.toInt_toInt64, pk_lT, br_lnegT, eN] <;> omega)); done)))
        | (refine And.intro ?_ ?_; (focus ((first | rfl | assumption | exact fun z => z rfl | omega | (simp (disch := omega) only [not_true_eq_false, not_false_eq_true, br_u_s, br_u_n, br_u_q, nI_eq, nI_clamp, nI_add, pk_mul, br_R17, br_S17, pk_sub_toInt, br_ltT, br_leT, br_inT, br_nT, br_negT, br_b_0, br_b_1, Int32.toInt_toInt64, pk_lT, br_lnegT, eN] <;> omega)); done))))
end
