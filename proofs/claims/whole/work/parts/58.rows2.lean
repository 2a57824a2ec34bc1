set_option maxRecDepth 100000
set_option maxHeartbeats 4000000
theorem br_im_d {I I' : Nat → Nat → Int32} (h : br_im I) (hI : ∀ p j, (p = 53 ∨ p = 172 ∨ (83 ≤ p ∧ p ≤ 168) ∨ (p = 171 ∧ 1389 ≤ j)) → I' p j = I p j) : br_im I' := by
  intro i hi
  rw [hI 53 i (by omega), hI 172 i (by omega)]
  rcases h i hi with h1 | ⟨h1, h2, h3⟩
  · exact Or.inl h1
  · exact Or.inr ⟨h1, h2, br_W_c h3 (fun p j h4 h5 => hI p j (by omega)) (fun k hk => hI 171 _ (by omega))⟩
theorem br_tp_d {I I' : Nat → Nat → Int32} (h : br_tp I) (hI : ∀ p j, ((p = 55 ∧ j = 1) ∨ p = 56 ∨ (p = 169 ∧ j = 6) ∨ p = 173) → I' p j = I p j) : br_tp I' := by
  obtain ⟨T, h1, h2, h3, h4⟩ := h
  refine ⟨T, h1, ?_, ?_, fun k hk => ?_⟩
  · rw [hI 55 1 (by omega)]; exact h2
  · rw [hI 169 6 (by omega)]; exact h3
  · rw [hI 56 k (by omega), hI 173 k (by omega)]; exact h4 k hk
theorem br_ft_d {I I' : Nat → Nat → Int32} (h : br_ft I) (hI : ∀ p j, ((p = 54 ∧ (j = 3 ∨ j = 4)) ∨ (p = 169 ∧ (j = 16 ∨ j = 17))) → I' p j = I p j) : br_ft I' := by
  unfold br_ft
  rw [hI 54 3 (by omega), hI 54 4 (by omega), hI 169 16 (by omega), hI 169 17 (by omega)]
  exact h
theorem br_rw_d {I I' : Nat → Nat → Int32} {L L' : Nat → Nat → Int64} (h : br_rw I L) (hI : ∀ p j, (p = 80 ∨ p = 81 ∨ p = 179 ∨ p = 180) → I' p j = I p j) (hL : ∀ p j, br_kL p → L' p j = L p j) : br_rw I' L' := by
  intro r hr
  rw [hI 81 r (by omega), hI 179 r (by omega), hI 80 r (by omega), hI 180 r (by omega)]
  rcases h r hr with h1 | ⟨m, s, h1, h2, h3, h4, h5, h6, h7⟩
  · exact Or.inl h1
  · refine Or.inr ⟨m, s, h1, h2, h3, h4, h5, h6, fun k hk => ?_⟩
    rw [hL (76 + r) k (by unfold br_kL; omega), hL 181 _ (by unfold br_kL; omega)]
    exact h7 k hk
theorem br_R75 {r : Nat} (hr : r < 4) : br_R0 75 r = 76 + r := by
  rcases (by omega : r = 0 ∨ r = 1 ∨ r = 2 ∨ r = 3) with rfl | rfl | rfl | rfl <;> rfl
theorem br_S75 {n r : Nat} (hr : r < 4) : br_S0 n (76 + r) = (2, 40) := by
  rcases (by omega : r = 0 ∨ r = 1 ∨ r = 2 ∨ r = 3) with rfl | rfl | rfl | rfl <;> rfl
/-- a call that changes rows alone -/
theorem br_Inv_r {xs : Nat → Int32} {I I' : Nat → Nat → Int32} {L L' : Nat → Nat → Int64} (h : br_Inv xs I L) (hR : br_rw I' L') (hI : ∀ p j, br_kA p j → ¬ (p = 80 ∨ p = 81 ∨ p = 179 ∨ p = 180) → I' p j = I p j) (hL : ∀ p j, ¬ (76 ≤ p ∧ p ≤ 79) → p ≠ 181 → L' p j = L p j) : br_Inv xs I' L' := by
  refine ⟨br_W_c h.1 (fun p j h1 h2 => hI p j (by unfold br_kA; omega) (by omega)) (fun k hk => hI _ _ (by unfold br_kA; omega) (by omega)), ⟨br_im_d h.2.1.1 (fun p j hp => hI p j (by unfold br_kA br_kO; omega) (by omega)), hR, br_tp_d h.2.1.2.2.1 (fun p j hp => hI p j (by unfold br_kA br_kO; omega) (by omega)), br_ft_d h.2.1.2.2.2.1 (fun p j hp => hI p j (by unfold br_kA br_kO; omega) (by omega)), fun p j hp => ?_⟩,
    br_rf_c h.2.2.1 (fun j => hI _ _ (by unfold br_kA; omega) (by omega)) (fun j => hI _ _ (by unfold br_kA; omega) (by omega)), br_fr_c h.2.2.2.1 (hL _ _ (by omega) (by omega)) (hL _ _ (by omega) (by omega)) (hL _ _ (by omega) (by omega)) (hL _ _ (by omega) (by omega)), br_wy_c h.2.2.2.2 (hI _ _ (by unfold br_kA; omega) (by omega)) (hI _ _ (by unfold br_kA; omega) (by omega)) (fun j => hL _ _ (by omega) (by omega))⟩
  rw [hI p j (by unfold br_kA br_kO; omega) (by omega)]
  exact h.2.1.2.2.2.2 p j hp
section
variable {n : Nat} {xs : Nat → Int32} {I : Nat → Nat → Int32} {L : Nat → Nat → Int64}
theorem bp_row (hI : br_Inv xs I L) (x1 x2 x3 : Int32) : br_pair n xs 176 291 [some (.ref 8), some (.int x1), some (.int x2), some (.int x3)] [some (.ref 169), some (.int x1), some (.int x2), some (.int x3), none] I L := by
  by_cases h1 : 0 ≤ x1.toInt ∧ x1.toInt ≤ 3
  · by_cases h2 : 0 ≤ x2.toInt ∧ x2.toInt ≤ 3
    · by_cases h3 : 0 ≤ x3.toInt ∧ x3.toInt ≤ 40
      · obtain ⟨r, er, hr⟩ := br_nN h1.1
        obtain ⟨s, es, hs⟩ := br_nN h2.1
        obtain ⟨m, em, hm⟩ := br_nN h3.1
        subst er es em
        have hr4 : r < 4 := by omega
        have e75 := br_R75 hr4
        have s75 := br_S75 (n := n) hr4
        refine br_pc ⟨nI 0, br_u (br_u I 80 r (nI s)) 81 r (nI m), br_row L (76 + r) 0 (fun _ => lN 0) 40, br_u (br_u (br_u (br_u (br_u I 80 r (nI s)) 81 r (nI m)) 169 0 (nI 0)) 179 r (nI s)) 180 r (nI m), br_row (br_row L (76 + r) 0 (fun _ => lN 0) 40) 181 (40 * r) (fun _ => lN 0) m, fun d Q H => ?_, fun d Q H => ?_, fun j => by ((repeat rw [br_u_n (by omega)]) <;> rfl), br_Inv_r hI ?_ ?_ ?_⟩
        · repeat (first
            | exact H
            | (refine br_t ?_ ?_; (focus ((first | rfl | assumption | exact fun z => z rfl | omega | (simp (disch := omega) only [not_true_eq_false, not_false_eq_true, br_u_s, br_u_n, br_u_q, nI_eq, nI_clamp, nI_add, pk_mul, br_R17, br_S17, pk_sub_toInt, br_ltT, br_leT, br_inT, br_nT, br_negT, br_b_0, br_b_1, Int32.toInt_toInt64, pk_lT, br_lnegT] <;> omega)); done)))
            | (refine br_f ?_ ?_; (focus ((first | rfl | assumption | exact fun z => z rfl | omega | (simp (disch := omega) only [not_true_eq_false, not_false_eq_true, br_u_s, br_u_n, br_u_q, nI_eq, nI_clamp, nI_add, pk_mul, br_R17, br_S17, pk_sub_toInt, br_ltT, br_leT, br_inT, br_nT, br_negT, br_b_0, br_b_1, Int32.toInt_toInt64, pk_lT, br_lnegT] <;> omega)); done)))
            | refine rb_A_row_0 ?_
            | refine rb_A_row_6 ?_
            | refine rb_A_row_15 ?_
            | refine rb_A_row_23 ?_
            | refine rb_A_row_31 ?_
            | refine rb_A_row_39 ?_
            | refine rb_A_row_64 ?_
            | (refine rs_out_F ?_ ?_; (focus ((first | rfl | assumption | exact fun z => z rfl | omega | (simp (disch := omega) only [not_true_eq_false, not_false_eq_true, br_u_s, br_u_n, br_u_q, nI_eq, nI_clamp, nI_add, pk_mul, br_R17, br_S17, pk_sub_toInt, br_ltT, br_leT, br_inT, br_nT, br_negT, br_b_0, br_b_1, Int32.toInt_toInt64, pk_lT, br_lnegT] <;> omega)); done)))
            | (refine rs_out_T ?_ ?_; (focus ((first | rfl | assumption | exact fun z => z rfl | omega | (simp (disch := omega) only [not_true_eq_false, not_false_eq_true, br_u_s, br_u_n, br_u_q, nI_eq, nI_clamp, nI_add, pk_mul, br_R17, br_S17, pk_sub_toInt, br_ltT, br_leT, br_inT, br_nT, br_negT, br_b_0, br_b_1, Int32.toInt_toInt64, pk_lT, br_lnegT] <;> omega)); done)))
            | (refine rs_noChild_F (N := N) ?_ ?_ ?_ ?_; (focus ((first | rfl | assumption | exact fun z => z rfl | omega | (simp (disch := omega) only [not_true_eq_false, not_false_eq_true, br_u_s, br_u_n, br_u_q, nI_eq, nI_clamp, nI_add, pk_mul, br_R17, br_S17, pk_sub_toInt, br_ltT, br_leT, br_inT, br_nT, br_negT, br_b_0, br_b_1, Int32.toInt_toInt64, pk_lT, br_lnegT] <;> omega)); done)); (focus ((first | rfl | assumption | exact fun z => z rfl | omega | (simp (disch := omega) only [not_true_eq_false, not_false_eq_true, br_u_s, br_u_n, br_u_q, nI_eq, nI_clamp, nI_add, pk_mul, br_R17, br_S17, pk_sub_toInt, br_ltT, br_leT, br_inT, br_nT, br_negT, br_b_0, br_b_1, Int32.toInt_toInt64, pk_lT, br_lnegT] <;> omega)); done)); (focus ((first | rfl | assumption | exact fun z => z rfl | omega | (simp (disch := omega) only [not_true_eq_false, not_false_eq_true, br_u_s, br_u_n, br_u_q, nI_eq, nI_clamp, nI_add, pk_mul, br_R17, br_S17, pk_sub_toInt, br_ltT, br_leT, br_inT, br_nT, br_negT, br_b_0, br_b_1, Int32.toInt_toInt64, pk_lT, br_lnegT] <;> omega)); done)))
            | (refine rs_noChild_T (N := N) ?_ ?_ ?_ ?_; (focus ((first | rfl | assumption | exact fun z => z rfl | omega | (simp (disch := omega) only [not_true_eq_false, not_false_eq_true, br_u_s, br_u_n, br_u_q, nI_eq, nI_clamp, nI_add, pk_mul, br_R17, br_S17, pk_sub_toInt, br_ltT, br_leT, br_inT, br_nT, br_negT, br_b_0, br_b_1, Int32.toInt_toInt64, pk_lT, br_lnegT] <;> omega)); done)); (focus ((first | rfl | assumption | exact fun z => z rfl | omega | (simp (disch := omega) only [not_true_eq_false, not_false_eq_true, br_u_s, br_u_n, br_u_q, nI_eq, nI_clamp, nI_add, pk_mul, br_R17, br_S17, pk_sub_toInt, br_ltT, br_leT, br_inT, br_nT, br_negT, br_b_0, br_b_1, Int32.toInt_toInt64, pk_lT, br_lnegT] <;> omega)); done)); (focus ((first | rfl | assumption | exact fun z => z rfl | omega | (simp (disch := omega) only [not_true_eq_false, not_false_eq_true, br_u_s, br_u_n, br_u_q, nI_eq, nI_clamp, nI_add, pk_mul, br_R17, br_S17, pk_sub_toInt, br_ltT, br_leT, br_inT, br_nT, br_negT, br_b_0, br_b_1, Int32.toInt_toInt64, pk_lT, br_lnegT] <;> omega)); done)))
            | (refine rs_noTest_F ?_ ?_; (focus ((first | rfl | assumption | exact fun z => z rfl | omega | (simp (disch := omega) only [not_true_eq_false, not_false_eq_true, br_u_s, br_u_n, br_u_q, nI_eq, nI_clamp, nI_add, pk_mul, br_R17, br_S17, pk_sub_toInt, br_ltT, br_leT, br_inT, br_nT, br_negT, br_b_0, br_b_1, Int32.toInt_toInt64, pk_lT, br_lnegT] <;> omega)); done)))
            | (refine rs_noTest_T ?_ ?_; (focus ((first | rfl | assumption | exact fun z => z rfl | omega | (simp (disch := omega) only [not_true_eq_false, not_false_eq_true, br_u_s, br_u_n, br_u_q, nI_eq, nI_clamp, nI_add, pk_mul, br_R17, br_S17, pk_sub_toInt, br_ltT, br_leT, br_inT, br_nT, br_negT, br_b_0, br_b_1, Int32.toInt_toInt64, pk_lT, br_lnegT] <;> omega)); done)))
            | (refine rs_refuse ?_ ?_; (focus ((first | rfl | assumption | exact fun z => z rfl | omega | (simp (disch := omega) only [not_true_eq_false, not_false_eq_true, br_u_s, br_u_n, br_u_q, nI_eq, nI_clamp, nI_add, pk_mul, br_R17, br_S17, pk_sub_toInt, br_ltT, br_leT, br_inT, br_nT, br_negT, br_b_0, br_b_1, Int32.toInt_toInt64, pk_lT, br_lnegT] <;> omega)); done)))
            | (refine And.intro ?_ ?_; (focus ((first | rfl | assumption | exact fun z => z rfl | omega | (simp (disch := omega) only [not_true_eq_false, not_false_eq_true, br_u_s, br_u_n, br_u_q, nI_eq, nI_clamp, nI_add, pk_mul, br_R17, br_S17, pk_sub_toInt, br_ltT, br_leT, br_inT, br_nT, br_negT, br_b_0, br_b_1, Int32.toInt_toInt64, pk_lT, br_lnegT] <;> omega)); done))))
          simp (disch := omega) only [nI_clamp, e75]
          exact rs_fillJ s75 (by omega) (by omega) (rb_A_row_64 H)
        · generalize hJ : br_u (br_u (br_u (br_u (br_u I 80 r (nI s)) 81 r (nI m)) 169 0 (nI 0)) 179 r (nI s)) 180 r (nI m) = J at H
          have loop : ∀ k i, i + k = m → br_r (d + 80) 291 72 [some (.ref 169), some (.int (nI r)), some (.int (nI s)), some (.int (nI m)), some (.int (nI i))] [] (br_hp n J (br_row (br_row L (76 + r) 0 (fun _ => lN 0) 40) 181 (40 * r) (fun _ => lN 0) i)) Q := by
            intro k
            induction k with
            | zero =>
              intro i hi
              have : i = m := by omega
              subst this
              exact rb_M_row_72 (br_t (nI_le (Nat.le_refl _) (by omega)) H)
            | succ k ih =>
              intro i hi
              have h1 := ih (i + 1) (by omega)
              rw [br_row_s] at h1
              refine rb_M_row_72 (br_f (nI_ge (by omega) (by omega)) ?_)
              rw [pk_mul, nI_add, nI_clamp (by omega), nI_add]
              exact ⟨vp_in_nI (by omega) (by omega), h1⟩
          have l0 := loop m 0 (by omega)
          rw [br_row_0] at l0
          repeat (first
            | exact H
            | (refine br_t ?_ ?_; (focus ((first | rfl | assumption | exact fun z => z rfl | omega | (simp (disch := omega) only [not_true_eq_false, not_false_eq_true, br_u_s, br_u_n, br_u_q, nI_eq, nI_clamp, nI_add, pk_mul, br_R17, br_S17, pk_sub_toInt, br_ltT, br_leT, br_inT, br_nT, br_negT, br_b_0, br_b_1, Int32.toInt_toInt64, pk_lT, br_lnegT] <;> omega)); done)))
            | (refine br_f ?_ ?_; (focus ((first | rfl | assumption | exact fun z => z rfl | omega | (simp (disch := omega) only [not_true_eq_false, not_false_eq_true, br_u_s, br_u_n, br_u_q, nI_eq, nI_clamp, nI_add, pk_mul, br_R17, br_S17, pk_sub_toInt, br_ltT, br_leT, br_inT, br_nT, br_negT, br_b_0, br_b_1, Int32.toInt_toInt64, pk_lT, br_lnegT] <;> omega)); done)))
            | refine rb_M_row_0 ?_
            | refine rb_M_row_14 ?_
            | refine rb_M_row_26 ?_
            | refine rb_M_row_35 ?_
            | refine rb_M_row_45 ?_
            | refine rb_M_row_54 ?_
            | (refine rs_wi_T ?_ ?_; (focus ((first | rfl | assumption | exact fun z => z rfl | omega | (simp (disch := omega) only [not_true_eq_false, not_false_eq_true, br_u_s, br_u_n, br_u_q, nI_eq, nI_clamp, nI_add, pk_mul, br_R17, br_S17, pk_sub_toInt, br_ltT, br_leT, br_inT, br_nT, br_negT, br_b_0, br_b_1, Int32.toInt_toInt64, pk_lT, br_lnegT] <;> omega)); done)))
            | (refine rs_wi_F ?_ ?_; (focus ((first | rfl | assumption | exact fun z => z rfl | omega | (simp (disch := omega) only [not_true_eq_false, not_false_eq_true, br_u_s, br_u_n, br_u_q, nI_eq, nI_clamp, nI_add, pk_mul, br_R17, br_S17, pk_sub_toInt, br_ltT, br_leT, br_inT, br_nT, br_negT, br_b_0, br_b_1, Int32.toInt_toInt64, pk_lT, br_lnegT] <;> omega)); done)))
            | (refine rs_isChild_T (N := N) ?_ ?_ ?_ ?_; (focus ((first | rfl | assumption | exact fun z => z rfl | omega | (simp (disch := omega) only [not_true_eq_false, not_false_eq_true, br_u_s, br_u_n, br_u_q, nI_eq, nI_clamp, nI_add, pk_mul, br_R17, br_S17, pk_sub_toInt, br_ltT, br_leT, br_inT, br_nT, br_negT, br_b_0, br_b_1, Int32.toInt_toInt64, pk_lT, br_lnegT] <;> omega)); done)); (focus ((first | rfl | assumption | exact fun z => z rfl | omega | (simp (disch := omega) only [not_true_eq_false, not_false_eq_true, br_u_s, br_u_n, br_u_q, nI_eq, nI_clamp, nI_add, pk_mul, br_R17, br_S17, pk_sub_toInt, br_ltT, br_leT, br_inT, br_nT, br_negT, br_b_0, br_b_1, Int32.toInt_toInt64, pk_lT, br_lnegT] <;> omega)); done)); (focus ((first | rfl | assumption | exact fun z => z rfl | omega | (simp (disch := omega) only [not_true_eq_false, not_false_eq_true, br_u_s, br_u_n, br_u_q, nI_eq, nI_clamp, nI_add, pk_mul, br_R17, br_S17, pk_sub_toInt, br_ltT, br_leT, br_inT, br_nT, br_negT, br_b_0, br_b_1, Int32.toInt_toInt64, pk_lT, br_lnegT] <;> omega)); done)))
            | (refine rs_isChild_F (N := N) ?_ ?_ ?_ ?_; (focus ((first | rfl | assumption | exact fun z => z rfl | omega | (simp (disch := omega) only [not_true_eq_false, not_false_eq_true, br_u_s, br_u_n, br_u_q, nI_eq, nI_clamp, nI_add, pk_mul, br_R17, br_S17, pk_sub_toInt, br_ltT, br_leT, br_inT, br_nT, br_negT, br_b_0, br_b_1, Int32.toInt_toInt64, pk_lT, br_lnegT] <;> omega)); done)); (focus ((first | rfl | assumption | exact fun z => z rfl | omega | (simp (disch := omega) only [not_true_eq_false, not_false_eq_true, br_u_s, br_u_n, br_u_q, nI_eq, nI_clamp, nI_add, pk_mul, br_R17, br_S17, pk_sub_toInt, br_ltT, br_leT, br_inT, br_nT, br_negT, br_b_0, br_b_1, Int32.toInt_toInt64, pk_lT, br_lnegT] <;> omega)); done)); (focus ((first | rfl | assumption | exact fun z => z rfl | omega | (simp (disch := omega) only [not_true_eq_false, not_false_eq_true, br_u_s, br_u_n, br_u_q, nI_eq, nI_clamp, nI_add, pk_mul, br_R17, br_S17, pk_sub_toInt, br_ltT, br_leT, br_inT, br_nT, br_negT, br_b_0, br_b_1, Int32.toInt_toInt64, pk_lT, br_lnegT] <;> omega)); done)))
            | (refine rs_isTest_T ?_ ?_; (focus ((first | rfl | assumption | exact fun z => z rfl | omega | (simp (disch := omega) only [not_true_eq_false, not_false_eq_true, br_u_s, br_u_n, br_u_q, nI_eq, nI_clamp, nI_add, pk_mul, br_R17, br_S17, pk_sub_toInt, br_ltT, br_leT, br_inT, br_nT, br_negT, br_b_0, br_b_1, Int32.toInt_toInt64, pk_lT, br_lnegT] <;> omega)); done)))
            | (refine rs_isTest_F ?_ ?_; (focus ((first | rfl | assumption | exact fun z => z rfl | omega | (simp (disch := omega) only [not_true_eq_false, not_false_eq_true, br_u_s, br_u_n, br_u_q, nI_eq, nI_clamp, nI_add, pk_mul, br_R17, br_S17, pk_sub_toInt, br_ltT, br_leT, br_inT, br_nT, br_negT, br_b_0, br_b_1, Int32.toInt_toInt64, pk_lT, br_lnegT] <;> omega)); done)))
            | (refine rs_no ?_ ?_; (focus ((first | rfl | assumption | exact fun z => z rfl | omega | (simp (disch := omega) only [not_true_eq_false, not_false_eq_true, br_u_s, br_u_n, br_u_q, nI_eq, nI_clamp, nI_add, pk_mul, br_R17, br_S17, pk_sub_toInt, br_ltT, br_leT, br_inT, br_nT, br_negT, br_b_0, br_b_1, Int32.toInt_toInt64, pk_lT, br_lnegT] <;> omega)); done)))
            | (refine rs_pointOf ?_ ?_ ?_; (focus ((first | rfl | assumption | exact fun z => z rfl | omega | (simp (disch := omega) only [not_true_eq_false, not_false_eq_true, br_u_s, br_u_n, br_u_q, nI_eq, nI_clamp, nI_add, pk_mul, br_R17, br_S17, pk_sub_toInt, br_ltT, br_leT, br_inT, br_nT, br_negT, br_b_0, br_b_1, Int32.toInt_toInt64, pk_lT, br_lnegT] <;> omega)); done)); (focus ((first | rfl | assumption | exact fun z => z rfl | omega | (simp (disch := omega) only [not_true_eq_false, not_false_eq_true, br_u_s, br_u_n, br_u_q, nI_eq, nI_clamp, nI_add, pk_mul, br_R17, br_S17, pk_sub_toInt, br_ltT, br_leT, br_inT, br_nT, br_negT, br_b_0, br_b_1, Int32.toInt_toInt64, pk_lT, br_lnegT] <;> omega)); done)))
            | (refine And.intro ?_ ?_; (focus ((first | rfl | assumption | exact fun z => z rfl | omega | (simp (disch := omega) only [not_true_eq_false, not_false_eq_true, br_u_s, br_u_n, br_u_q, nI_eq, nI_clamp, nI_add, pk_mul, br_R17, br_S17, pk_sub_toInt, br_ltT, br_leT, br_inT, br_nT, br_negT, br_b_0, br_b_1, Int32.toInt_toInt64, pk_lT, br_lnegT] <;> omega)); done))))
          simp (disch := omega) only [nI_clamp, hJ]
          exact l0
        · intro q hq
          by_cases hqr : q = r
          · subst hqr
            refine Or.inr ⟨m, s, by omega, by omega, ?_, br_u_s, ?_, ?_, fun k hk => ?_⟩
            · rw [br_u_n (by omega), br_u_n (by omega), br_u_n (by omega), br_u_s]
            · rw [br_u_n (by omega), br_u_n (by omega), br_u_n (by omega), br_u_n (by omega), br_u_s]
            · rw [br_u_n (by omega), br_u_s]
            · rw [br_row_n (by omega), br_row_i hk]
              have := br_row_i (f := L) (p := 76 + q) (b := 0) (F := fun _ => lN 0) (m := 40) (j := k) (by omega)
              rwa [Nat.zero_add] at this
          · have e1 : ∀ p, (p = 81 ∨ p = 179 ∨ p = 80 ∨ p = 180) → br_u (br_u (br_u (br_u (br_u I 80 r (nI s)) 81 r (nI m)) 169 0 (nI 0)) 179 r (nI s)) 180 r (nI m) p q = I p q := fun p hp => by ((repeat rw [br_u_n (by omega)]) <;> rfl)
            rw [e1 81 (by omega), e1 179 (by omega), e1 80 (by omega), e1 180 (by omega)]
            rcases hI.2.1.2.1 q hq with h | ⟨m', s', h1, h2, h3, h4, h5, h6, h7⟩
            · exact Or.inl h
            · refine Or.inr ⟨m', s', h1, h2, h3, h4, h5, h6, fun k hk => ?_⟩
              rw [br_row_n (by omega), br_row_n (by omega), br_row_n (by omega), br_row_n (by omega)]
              exact h7 k hk
        · intro p j hp hq
          unfold br_kA br_kO at hp
          ((repeat rw [br_u_n (by omega)]) <;> rfl)
        · intro p j hp hq
          rw [br_row_n (by omega), br_row_n (by omega)]
      · refine br_pair_no hI (k := 3) (by omega) (v := -(nI 3)) (fun d Q H => ?_) (fun d Q H => ?_)
        · repeat (first
            | exact H
            | (refine br_t ?_ ?_; (focus ((first | rfl | assumption | exact fun z => z rfl | omega | (simp (disch := omega) only [not_true_eq_false, not_false_eq_true, br_u_s, br_u_n, br_u_q, nI_eq, nI_clamp, nI_add, pk_mul, br_R17, br_S17, pk_sub_toInt, br_ltT, br_leT, br_inT, br_nT, br_negT, br_b_0, br_b_1, Int32.toInt_toInt64, pk_lT, br_lnegT] <;> omega)); done)))
            | (refine br_f ?_ ?_; (focus ((first | rfl | assumption | exact fun z => z rfl | omega | (simp (disch := omega) only [not_true_eq_false, not_false_eq_true, br_u_s, br_u_n, br_u_q, nI_eq, nI_clamp, nI_add, pk_mul, br_R17, br_S17, pk_sub_toInt, br_ltT, br_leT, br_inT, br_nT, br_negT, br_b_0, br_b_1, Int32.toInt_toInt64, pk_lT, br_lnegT] <;> omega)); done)))
            | refine rb_A_row_0 ?_
            | refine rb_A_row_6 ?_
            | refine rb_A_row_15 ?_
            | refine rb_A_row_23 ?_
            | refine rb_A_row_31 ?_
            | refine rb_A_row_39 ?_
            | refine rb_A_row_64 ?_
            | (refine rs_out_F ?_ ?_; (focus ((first | rfl | assumption | exact fun z => z rfl | omega | (simp (disch := omega) only [not_true_eq_false, not_false_eq_true, br_u_s, br_u_n, br_u_q, nI_eq, nI_clamp, nI_add, pk_mul, br_R17, br_S17, pk_sub_toInt, br_ltT, br_leT, br_inT, br_nT, br_negT, br_b_0, br_b_1, Int32.toInt_toInt64, pk_lT, br_lnegT] <;> omega)); done)))
            | (refine rs_out_T ?_ ?_; (focus ((first | rfl | assumption | exact fun z => z rfl | omega | (simp (disch := omega) only [not_true_eq_false, not_false_eq_true, br_u_s, br_u_n, br_u_q, nI_eq, nI_clamp, nI_add, pk_mul, br_R17, br_S17, pk_sub_toInt, br_ltT, br_leT, br_inT, br_nT, br_negT, br_b_0, br_b_1, Int32.toInt_toInt64, pk_lT, br_lnegT] <;> omega)); done)))
            | (refine rs_noChild_F (N := N) ?_ ?_ ?_ ?_; (focus ((first | rfl | assumption | exact fun z => z rfl | omega | (simp (disch := omega) only [not_true_eq_false, not_false_eq_true, br_u_s, br_u_n, br_u_q, nI_eq, nI_clamp, nI_add, pk_mul, br_R17, br_S17, pk_sub_toInt, br_ltT, br_leT, br_inT, br_nT, br_negT, br_b_0, br_b_1, Int32.toInt_toInt64, pk_lT, br_lnegT] <;> omega)); done)); (focus ((first | rfl | assumption | exact fun z => z rfl | omega | (simp (disch := omega) only [not_true_eq_false, not_false_eq_true, br_u_s, br_u_n, br_u_q, nI_eq, nI_clamp, nI_add, pk_mul, br_R17, br_S17, pk_sub_toInt, br_ltT, br_leT, br_inT, br_nT, br_negT, br_b_0, br_b_1, Int32.toInt_toInt64, pk_lT, br_lnegT] <;> omega)); done)); (focus ((first | rfl | assumption | exact fun z => z rfl | omega | (simp (disch := omega) only [not_true_eq_false, not_false_eq_true, br_u_s, br_u_n, br_u_q, nI_eq, nI_clamp, nI_add, pk_mul, br_R17, br_S17, pk_sub_toInt, br_ltT, br_leT, br_inT, br_nT, br_negT, br_b_0, br_b_1, Int32.toInt_toInt64, pk_lT, br_lnegT] <;> omega)); done)))
            | (refine rs_noChild_T (N := N) ?_ ?_ ?_ ?_; (focus ((first | rfl | assumption | exact fun z => z rfl | omega | (simp (disch := omega) only [not_true_eq_false, not_false_eq_true, br_u_s, br_u_n, br_u_q, nI_eq, nI_clamp, nI_add, pk_mul, br_R17, br_S17, pk_sub_toInt, br_ltT, br_leT, br_inT, br_nT, br_negT, br_b_0, br_b_1, Int32.toInt_toInt64, pk_lT, br_lnegT] <;> omega)); done)); (focus ((first | rfl | assumption | exact fun z => z rfl | omega | (simp (disch := omega) only [not_true_eq_false, not_false_eq_true, br_u_s, br_u_n, br_u_q, nI_eq, nI_clamp, nI_add, pk_mul, br_R17, br_S17, pk_sub_toInt, br_ltT, br_leT, br_inT, br_nT, br_negT, br_b_0, br_b_1, Int32.toInt_toInt64, pk_lT, br_lnegT] <;> omega)); done)); (focus ((first | rfl | assumption | exact fun z => z rfl | omega | (simp (disch := omega) only [not_true_eq_false, not_false_eq_true, br_u_s, br_u_n, br_u_q, nI_eq, nI_clamp, nI_add, pk_mul, br_R17, br_S17, pk_sub_toInt, br_ltT, br_leT, br_inT, br_nT, br_negT, br_b_0, br_b_1, Int32.toInt_toInt64, pk_lT, br_lnegT] <;> omega)); done)))
            | (refine rs_noTest_F ?_ ?_; (focus ((first | rfl | assumption | exact fun z => z rfl | omega | (simp (disch := omega) only [not_true_eq_false, not_false_eq_true, br_u_s, br_u_n, br_u_q, nI_eq, nI_clamp, nI_add, pk_mul, br_R17, br_S17, pk_sub_toInt, br_ltT, br_leT, br_inT, br_nT, br_negT, br_b_0, br_b_1, Int32.toInt_toInt64, pk_lT, br_lnegT] <;> omega)); done)))
            | (refine rs_noTest_T ?_ ?_; (focus ((first | rfl | assumption | exact fun z => z rfl | omega | (simp (disch := omega) only [not_true_eq_false, not_false_eq_true, br_u_s, br_u_n, br_u_q, nI_eq, nI_clamp, nI_add, pk_mul, br_R17, br_S17, pk_sub_toInt, br_ltT, br_leT, br_inT, br_nT, br_negT, br_b_0, br_b_1, Int32.toInt_toInt64, pk_lT, br_lnegT] <;> omega)); done)))
            | (refine rs_refuse ?_ ?_; (focus ((first | rfl | assumption | exact fun z => z rfl | omega | (simp (disch := omega) only [not_true_eq_false, not_false_eq_true, br_u_s, br_u_n, br_u_q, nI_eq, nI_clamp, nI_add, pk_mul, br_R17, br_S17, pk_sub_toInt, br_ltT, br_leT, br_inT, br_nT, br_negT, br_b_0, br_b_1, Int32.toInt_toInt64, pk_lT, br_lnegT] <;> omega)); done)))
            | (refine And.intro ?_ ?_; (focus ((first | rfl | assumption | exact fun z => z rfl | omega | (simp (disch := omega) only [not_true_eq_false, not_false_eq_true, br_u_s, br_u_n, br_u_q, nI_eq, nI_clamp, nI_add, pk_mul, br_R17, br_S17, pk_sub_toInt, br_ltT, br_leT, br_inT, br_nT, br_negT, br_b_0, br_b_1, Int32.toInt_toInt64, pk_lT, br_lnegT] <;> omega)); done))))
        · repeat (first
            | exact H
            | (refine br_t ?_ ?_; (focus ((first | rfl | assumption | exact fun z => z rfl | omega | (simp (disch := omega) only [not_true_eq_false, not_false_eq_true, br_u_s, br_u_n, br_u_q, nI_eq, nI_clamp, nI_add, pk_mul, br_R17, br_S17, pk_sub_toInt, br_ltT, br_leT, br_inT, br_nT, br_negT, br_b_0, br_b_1, Int32.toInt_toInt64, pk_lT, br_lnegT] <;> omega)); done)))
            | (refine br_f ?_ ?_; (focus ((first | rfl | assumption | exact fun z => z rfl | omega | (simp (disch := omega) only [not_true_eq_false, not_false_eq_true, br_u_s, br_u_n, br_u_q, nI_eq, nI_clamp, nI_add, pk_mul, br_R17, br_S17, pk_sub_toInt, br_ltT, br_leT, br_inT, br_nT, br_negT, br_b_0, br_b_1, Int32.toInt_toInt64, pk_lT, br_lnegT] <;> omega)); done)))
            | refine rb_M_row_0 ?_
            | refine rb_M_row_14 ?_
            | refine rb_M_row_26 ?_
            | refine rb_M_row_35 ?_
            | refine rb_M_row_45 ?_
            | refine rb_M_row_54 ?_
            | refine rb_M_row_72 ?_
            | (refine rs_wi_T ?_ ?_; (focus ((first | rfl | assumption | exact fun z => z rfl | omega | (simp (disch := omega) only [not_true_eq_false, not_false_eq_true, br_u_s, br_u_n, br_u_q, nI_eq, nI_clamp, nI_add, pk_mul, br_R17, br_S17, pk_sub_toInt, br_ltT, br_leT, br_inT, br_nT, br_negT, br_b_0, br_b_1, Int32.toInt_toInt64, pk_lT, br_lnegT] <;> omega)); done)))
            | (refine rs_wi_F ?_ ?_; (focus ((first | rfl | assumption | exact fun z => z rfl | omega | (simp (disch := omega) only [not_true_eq_false, not_false_eq_true, br_u_s, br_u_n, br_u_q, nI_eq, nI_clamp, nI_add, pk_mul, br_R17, br_S17, pk_sub_toInt, br_ltT, br_leT, br_inT, br_nT, br_negT, br_b_0, br_b_1, Int32.toInt_toInt64, pk_lT, br_lnegT] <;> omega)); done)))
            | (refine rs_isChild_T (N := N) ?_ ?_ ?_ ?_; (focus ((first | rfl | assumption | exact fun z => z rfl | omega | (simp (disch := omega) only [not_true_eq_false, not_false_eq_true, br_u_s, br_u_n, br_u_q, nI_eq, nI_clamp, nI_add, pk_mul, br_R17, br_S17, pk_sub_toInt, br_ltT, br_leT, br_inT, br_nT, br_negT, br_b_0, br_b_1, Int32.toInt_toInt64, pk_lT, br_lnegT] <;> omega)); done)); (focus ((first | rfl | assumption | exact fun z => z rfl | omega | (simp (disch := omega) only [not_true_eq_false, not_false_eq_true, br_u_s, br_u_n, br_u_q, nI_eq, nI_clamp, nI_add, pk_mul, br_R17, br_S17, pk_sub_toInt, br_ltT, br_leT, br_inT, br_nT, br_negT, br_b_0, br_b_1, Int32.toInt_toInt64, pk_lT, br_lnegT] <;> omega)); done)); (focus ((first | rfl | assumption | exact fun z => z rfl | omega | (simp (disch := omega) only [not_true_eq_false, not_false_eq_true, br_u_s, br_u_n, br_u_q, nI_eq, nI_clamp, nI_add, pk_mul, br_R17, br_S17, pk_sub_toInt, br_ltT, br_leT, br_inT, br_nT, br_negT, br_b_0, br_b_1, Int32.toInt_toInt64, pk_lT, br_lnegT] <;> omega)); done)))
            | (refine rs_isChild_F (N := N) ?_ ?_ ?_ ?_; (focus ((first | rfl | assumption | exact fun z => z rfl | omega | (simp (disch := omega) only [not_true_eq_false, not_false_eq_true, br_u_s, br_u_n, br_u_q, nI_eq, nI_clamp, nI_add, pk_mul, br_R17, br_S17, pk_sub_toInt, br_ltT, br_leT, br_inT, br_nT, br_negT, br_b_0, br_b_1, Int32.toInt_toInt64, pk_lT, br_lnegT] <;> omega)); done)); (focus ((first | rfl | assumption | exact fun z => z rfl | omega | (simp (disch := omega) only [not_true_eq_false, not_false_eq_true, br_u_s, br_u_n, br_u_q, nI_eq, nI_clamp, nI_add, pk_mul, br_R17, br_S17, pk_sub_toInt, br_ltT, br_leT, br_inT, br_nT, br_negT, br_b_0, br_b_1, Int32.toInt_toInt64, pk_lT, br_lnegT] <;> omega)); done)); (focus ((first | rfl | assumption | exact fun z => z rfl | omega | (simp (disch := omega) only [not_true_eq_false, not_false_eq_true, br_u_s, br_u_n, br_u_q, nI_eq, nI_clamp, nI_add, pk_mul, br_R17, br_S17, pk_sub_toInt, br_ltT, br_leT, br_inT, br_nT, br_negT, br_b_0, br_b_1, Int32.toInt_toInt64, pk_lT, br_lnegT] <;> omega)); done)))
            | (refine rs_isTest_T ?_ ?_; (focus ((first | rfl | assumption | exact fun z => z rfl | omega | (simp (disch := omega) only [not_true_eq_false, not_false_eq_true, br_u_s, br_u_n, br_u_q, nI_eq, nI_clamp, nI_add, pk_mul, br_R17, br_S17, pk_sub_toInt, br_ltT, br_leT, br_inT, br_nT, br_negT, br_b_0, br_b_1, Int32.toInt_toInt64, pk_lT, br_lnegT] <;> omega)); done)))
            | (refine rs_isTest_F ?_ ?_; (focus ((first | rfl | assumption | exact fun z => z rfl | omega | (simp (disch := omega) only [not_true_eq_false, not_false_eq_true, br_u_s, br_u_n, br_u_q, nI_eq, nI_clamp, nI_add, pk_mul, br_R17, br_S17, pk_sub_toInt, br_ltT, br_leT, br_inT, br_nT, br_negT, br_b_0, br_b_1, Int32.toInt_toInt64, pk_lT, br_lnegT] <;> omega)); done)))
            | (refine rs_no ?_ ?_; (focus ((first | rfl | assumption | exact fun z => z rfl | omega | (simp (disch := omega) only [not_true_eq_false, not_false_eq_true, br_u_s, br_u_n, br_u_q, nI_eq, nI_clamp, nI_add, pk_mul, br_R17, br_S17, pk_sub_toInt, br_ltT, br_leT, br_inT, br_nT, br_negT, br_b_0, br_b_1, Int32.toInt_toInt64, pk_lT, br_lnegT] <;> omega)); done)))
            | (refine rs_pointOf ?_ ?_ ?_; (focus ((first | rfl | assumption | exact fun z => z rfl | omega | (simp (disch := omega) only [not_true_eq_false, not_false_eq_true, br_u_s, br_u_n, br_u_q, nI_eq, nI_clamp, nI_add, pk_mul, br_R17, br_S17, pk_sub_toInt, br_ltT, br_leT, br_inT, br_nT, br_negT, br_b_0, br_b_1, Int32.toInt_toInt64, pk_lT, br_lnegT] <;> omega)); done)); (focus ((first | rfl | assumption | exact fun z => z rfl | omega | (simp (disch := omega) only [not_true_eq_false, not_false_eq_true, br_u_s, br_u_n, br_u_q, nI_eq, nI_clamp, nI_add, pk_mul, br_R17, br_S17, pk_sub_toInt, br_ltT, br_leT, br_inT, br_nT, br_negT, br_b_0, br_b_1, Int32.toInt_toInt64, pk_lT, br_lnegT] <;> omega)); done)))
            | (refine And.intro ?_ ?_; (focus ((first | rfl | assumption | exact fun z => z rfl | omega | (simp (disch := omega) only [not_true_eq_false, not_false_eq_true, br_u_s, br_u_n, br_u_q, nI_eq, nI_clamp, nI_add, pk_mul, br_R17, br_S17, pk_sub_toInt, br_ltT, br_leT, br_inT, br_nT, br_negT, br_b_0, br_b_1, Int32.toInt_toInt64, pk_lT, br_lnegT] <;> omega)); done))))
    · refine br_pair_no hI (k := 2) (by omega) (v := -(nI 2)) (fun d Q H => ?_) (fun d Q H => ?_)
      · repeat (first
          | exact H
          | (refine br_t ?_ ?_; (focus ((first | rfl | assumption | exact fun z => z rfl | omega | (simp (disch := omega) only [not_true_eq_false, not_false_eq_true, br_u_s, br_u_n, br_u_q, nI_eq, nI_clamp, nI_add, pk_mul, br_R17, br_S17, pk_sub_toInt, br_ltT, br_leT, br_inT, br_nT, br_negT, br_b_0, br_b_1, Int32.toInt_toInt64, pk_lT, br_lnegT] <;> omega)); done)))
          | (refine br_f ?_ ?_; (focus ((first | rfl | assumption | exact fun z => z rfl | omega | (simp (disch := omega) only [not_true_eq_false, not_false_eq_true, br_u_s, br_u_n, br_u_q, nI_eq, nI_clamp, nI_add, pk_mul, br_R17, br_S17, pk_sub_toInt, br_ltT, br_leT, br_inT, br_nT, br_negT, br_b_0, br_b_1, Int32.toInt_toInt64, pk_lT, br_lnegT] <;> omega)); done)))
          | refine rb_A_row_0 ?_
          | refine rb_A_row_6 ?_
          | refine rb_A_row_15 ?_
          | refine rb_A_row_23 ?_
          | refine rb_A_row_31 ?_
          | refine rb_A_row_39 ?_
          | refine rb_A_row_64 ?_
          | (refine rs_out_F ?_ ?_; (focus ((first | rfl | assumption | exact fun z => z rfl | omega | (simp (disch := omega) only [not_true_eq_false, not_false_eq_true, br_u_s, br_u_n, br_u_q, nI_eq, nI_clamp, nI_add, pk_mul, br_R17, br_S17, pk_sub_toInt, br_ltT, br_leT, br_inT, br_nT, br_negT, br_b_0, br_b_1, Int32.toInt_toInt64, pk_lT, br_lnegT] <;> omega)); done)))
          | (refine rs_out_T ?_ ?_; (focus ((first | rfl | assumption | exact fun z => z rfl | omega | (simp (disch := omega) only [not_true_eq_false, not_false_eq_true, br_u_s, br_u_n, br_u_q, nI_eq, nI_clamp, nI_add, pk_mul, br_R17, br_S17, pk_sub_toInt, br_ltT, br_leT, br_inT, br_nT, br_negT, br_b_0, br_b_1, Int32.toInt_toInt64, pk_lT, br_lnegT] <;> omega)); done)))
          | (refine rs_noChild_F (N := N) ?_ ?_ ?_ ?_; (focus ((first | rfl | assumption | exact fun z => z rfl | omega | (simp (disch := omega) only [not_true_eq_false, not_false_eq_true, br_u_s, br_u_n, br_u_q, nI_eq, nI_clamp, nI_add, pk_mul, br_R17, br_S17, pk_sub_toInt, br_ltT, br_leT, br_inT, br_nT, br_negT, br_b_0, br_b_1, Int32.toInt_toInt64, pk_lT, br_lnegT] <;> omega)); done)); (focus ((first | rfl | assumption | exact fun z => z rfl | omega | (simp (disch := omega) only [not_true_eq_false, not_false_eq_true, br_u_s, br_u_n, br_u_q, nI_eq, nI_clamp, nI_add, pk_mul, br_R17, br_S17, pk_sub_toInt, br_ltT, br_leT, br_inT, br_nT, br_negT, br_b_0, br_b_1, Int32.toInt_toInt64, pk_lT, br_lnegT] <;> omega)); done)); (focus ((first | rfl | assumption | exact fun z => z rfl | omega | (simp (disch := omega) only [not_true_eq_false, not_false_eq_true, br_u_s, br_u_n, br_u_q, nI_eq, nI_clamp, nI_add, pk_mul, br_R17, br_S17, pk_sub_toInt, br_ltT, br_leT, br_inT, br_nT, br_negT, br_b_0, br_b_1, Int32.toInt_toInt64, pk_lT, br_lnegT] <;> omega)); done)))
          | (refine rs_noChild_T (N := N) ?_ ?_ ?_ ?_; (focus ((first | rfl | assumption | exact fun z => z rfl | omega | (simp (disch := omega) only [not_true_eq_false, not_false_eq_true, br_u_s, br_u_n, br_u_q, nI_eq, nI_clamp, nI_add, pk_mul, br_R17, br_S17, pk_sub_toInt, br_ltT, br_leT, br_inT, br_nT, br_negT, br_b_0, br_b_1, Int32.toInt_toInt64, pk_lT, br_lnegT] <;> omega)); done)); (focus ((first | rfl | assumption | exact fun z => z rfl | omega | (simp (disch := omega) only [not_true_eq_false, not_false_eq_true, br_u_s, br_u_n, br_u_q, nI_eq, nI_clamp, nI_add, pk_mul, br_R17, br_S17, pk_sub_toInt, br_ltT, br_leT, br_inT, br_nT, br_negT, br_b_0, br_b_1, Int32.toInt_toInt64, pk_lT, br_lnegT] <;> omega)); done)); (focus ((first | rfl | assumption | exact fun z => z rfl | omega | (simp (disch := omega) only [not_true_eq_false, not_false_eq_true, br_u_s, br_u_n, br_u_q, nI_eq, nI_clamp, nI_add, pk_mul, br_R17, br_S17, pk_sub_toInt, br_ltT, br_leT, br_inT, br_nT, br_negT, br_b_0, br_b_1, Int32.toInt_toInt64, pk_lT, br_lnegT] <;> omega)); done)))
          | (refine rs_noTest_F ?_ ?_; (focus ((first | rfl | assumption | exact fun z => z rfl | omega | (simp (disch := omega) only [not_true_eq_false, not_false_eq_true, br_u_s, br_u_n, br_u_q, nI_eq, nI_clamp, nI_add, pk_mul, br_R17, br_S17, pk_sub_toInt, br_ltT, br_leT, br_inT, br_nT, br_negT, br_b_0, br_b_1, Int32.toInt_toInt64, pk_lT, br_lnegT] <;> omega)); done)))
          | (refine rs_noTest_T ?_ ?_; (focus ((first | rfl | assumption | exact fun z => z rfl | omega | (simp (disch := omega) only [not_true_eq_false, not_false_eq_true, br_u_s, br_u_n, br_u_q, nI_eq, nI_clamp, nI_add, pk_mul, br_R17, br_S17, pk_sub_toInt, br_ltT, br_leT, br_inT, br_nT, br_negT, br_b_0, br_b_1, Int32.toInt_toInt64, pk_lT, br_lnegT] <;> omega)); done)))
          | (refine rs_refuse ?_ ?_; (focus ((first | rfl | assumption | exact fun z => z rfl | omega | (simp (disch := omega) only [not_true_eq_false, not_false_eq_true, br_u_s, br_u_n, br_u_q, nI_eq, nI_clamp, nI_add, pk_mul, br_R17, br_S17, pk_sub_toInt, br_ltT, br_leT, br_inT, br_nT, br_negT, br_b_0, br_b_1, Int32.toInt_toInt64, pk_lT, br_lnegT] <;> omega)); done)))
          | (refine And.intro ?_ ?_; (focus ((first | rfl | assumption | exact fun z => z rfl | omega | (simp (disch := omega) only [not_true_eq_false, not_false_eq_true, br_u_s, br_u_n, br_u_q, nI_eq, nI_clamp, nI_add, pk_mul, br_R17, br_S17, pk_sub_toInt, br_ltT, br_leT, br_inT, br_nT, br_negT, br_b_0, br_b_1, Int32.toInt_toInt64, pk_lT, br_lnegT] <;> omega)); done))))
      · repeat (first
          | exact H
          | (refine br_t ?_ ?_; (focus ((first | rfl | assumption | exact fun z => z rfl | omega | (simp (disch := omega) only [not_true_eq_false, not_false_eq_true, br_u_s, br_u_n, br_u_q, nI_eq, nI_clamp, nI_add, pk_mul, br_R17, br_S17, pk_sub_toInt, br_ltT, br_leT, br_inT, br_nT, br_negT, br_b_0, br_b_1, Int32.toInt_toInt64, pk_lT, br_lnegT] <;> omega)); done)))
          | (refine br_f ?_ ?_; (focus ((first | rfl | assumption | exact fun z => z rfl | omega | (simp (disch := omega) only [not_true_eq_false, not_false_eq_true, br_u_s, br_u_n, br_u_q, nI_eq, nI_clamp, nI_add, pk_mul, br_R17, br_S17, pk_sub_toInt, br_ltT, br_leT, br_inT, br_nT, br_negT, br_b_0, br_b_1, Int32.toInt_toInt64, pk_lT, br_lnegT] <;> omega)); done)))
          | refine rb_M_row_0 ?_
          | refine rb_M_row_14 ?_
          | refine rb_M_row_26 ?_
          | refine rb_M_row_35 ?_
          | refine rb_M_row_45 ?_
          | refine rb_M_row_54 ?_
          | refine rb_M_row_72 ?_
          | (refine rs_wi_T ?_ ?_; (focus ((first | rfl | assumption | exact fun z => z rfl | omega | (simp (disch := omega) only [not_true_eq_false, not_false_eq_true, br_u_s, br_u_n, br_u_q, nI_eq, nI_clamp, nI_add, pk_mul, br_R17, br_S17, pk_sub_toInt, br_ltT, br_leT, br_inT, br_nT, br_negT, br_b_0, br_b_1, Int32.toInt_toInt64, pk_lT, br_lnegT] <;> omega)); done)))
          | (refine rs_wi_F ?_ ?_; (focus ((first | rfl | assumption | exact fun z => z rfl | omega | (simp (disch := omega) only [not_true_eq_false, not_false_eq_true, br_u_s, br_u_n, br_u_q, nI_eq, nI_clamp, nI_add, pk_mul, br_R17, br_S17, pk_sub_toInt, br_ltT, br_leT, br_inT, br_nT, br_negT, br_b_0, br_b_1, Int32.toInt_toInt64, pk_lT, br_lnegT] <;> omega)); done)))
          | (refine rs_isChild_T (N := N) ?_ ?_ ?_ ?_; (focus ((first | rfl | assumption | exact fun z => z rfl | omega | (simp (disch := omega) only [not_true_eq_false, not_false_eq_true, br_u_s, br_u_n, br_u_q, nI_eq, nI_clamp, nI_add, pk_mul, br_R17, br_S17, pk_sub_toInt, br_ltT, br_leT, br_inT, br_nT, br_negT, br_b_0, br_b_1, Int32.toInt_toInt64, pk_lT, br_lnegT] <;> omega)); done)); (focus ((first | rfl | assumption | exact fun z => z rfl | omega | (simp (disch := omega) only [not_true_eq_false, not_false_eq_true, br_u_s, br_u_n, br_u_q, nI_eq, nI_clamp, nI_add, pk_mul, br_R17, br_S17, pk_sub_toInt, br_ltT, br_leT, br_inT, br_nT, br_negT, br_b_0, br_b_1, Int32.toInt_toInt64, pk_lT, br_lnegT] <;> omega)); done)); (focus ((first | rfl | assumption | exact fun z => z rfl | omega | (simp (disch := omega) only [not_true_eq_false, not_false_eq_true, br_u_s, br_u_n, br_u_q, nI_eq, nI_clamp, nI_add, pk_mul, br_R17, br_S17, pk_sub_toInt, br_ltT, br_leT, br_inT, br_nT, br_negT, br_b_0, br_b_1, Int32.toInt_toInt64, pk_lT, br_lnegT] <;> omega)); done)))
          | (refine rs_isChild_F (N := N) ?_ ?_ ?_ ?_; (focus ((first | rfl | assumption | exact fun z => z rfl | omega | (simp (disch := omega) only [not_true_eq_false, not_false_eq_true, br_u_s, br_u_n, br_u_q, nI_eq, nI_clamp, nI_add, pk_mul, br_R17, br_S17, pk_sub_toInt, br_ltT, br_leT, br_inT, br_nT, br_negT, br_b_0, br_b_1, Int32.toInt_toInt64, pk_lT, br_lnegT] <;> omega)); done)); (focus ((first | rfl | assumption | exact fun z => z rfl | omega | (simp (disch := omega) only [not_true_eq_false, not_false_eq_true, br_u_s, br_u_n, br_u_q, nI_eq, nI_clamp, nI_add, pk_mul, br_R17, br_S17, pk_sub_toInt, br_ltT, br_leT, br_inT, br_nT, br_negT, br_b_0, br_b_1, Int32.toInt_toInt64, pk_lT, br_lnegT] <;> omega)); done)); (focus ((first | rfl | assumption | exact fun z => z rfl | omega | (simp (disch := omega) only [not_true_eq_false, not_false_eq_true, br_u_s, br_u_n, br_u_q, nI_eq, nI_clamp, nI_add, pk_mul, br_R17, br_S17, pk_sub_toInt, br_ltT, br_leT, br_inT, br_nT, br_negT, br_b_0, br_b_1, Int32.toInt_toInt64, pk_lT, br_lnegT] <;> omega)); done)))
          | (refine rs_isTest_T ?_ ?_; (focus ((first | rfl | assumption | exact fun z => z rfl | omega | (simp (disch := omega) only [not_true_eq_false, not_false_eq_true, br_u_s, br_u_n, br_u_q, nI_eq, nI_clamp, nI_add, pk_mul, br_R17, br_S17, pk_sub_toInt, br_ltT, br_leT, br_inT, br_nT, br_negT, br_b_0, br_b_1, Int32.toInt_toInt64, pk_lT, br_lnegT] <;> omega)); done)))
          | (refine rs_isTest_F ?_ ?_; (focus ((first | rfl | assumption | exact fun z => z rfl | omega | (simp (disch := omega) only [not_true_eq_false, not_false_eq_true, br_u_s, br_u_n, br_u_q, nI_eq, nI_clamp, nI_add, pk_mul, br_R17, br_S17, pk_sub_toInt, br_ltT, br_leT, br_inT, br_nT, br_negT, br_b_0, br_b_1, Int32.toInt_toInt64, pk_lT, br_lnegT] <;> omega)); done)))
          | (refine rs_no ?_ ?_; (focus ((first | rfl | assumption | exact fun z => z rfl | omega | (simp (disch := omega) only [not_true_eq_false, not_false_eq_true, br_u_s, br_u_n, br_u_q, nI_eq, nI_clamp, nI_add, pk_mul, br_R17, br_S17, pk_sub_toInt, br_ltT, br_leT, br_inT, br_nT, br_negT, br_b_0, br_b_1, Int32.toInt_toInt64, pk_lT, br_lnegT] <;> omega)); done)))
          | (refine rs_pointOf ?_ ?_ ?_; (focus ((first | rfl | assumption | exact fun z => z rfl | omega | (simp (disch := omega) only [not_true_eq_false, not_false_eq_true, br_u_s, br_u_n, br_u_q, nI_eq, nI_clamp, nI_add, pk_mul, br_R17, br_S17, pk_sub_toInt, br_ltT, br_leT, br_inT, br_nT, br_negT, br_b_0, br_b_1, Int32.toInt_toInt64, pk_lT, br_lnegT] <;> omega)); done)); (focus ((first | rfl | assumption | exact fun z => z rfl | omega | (simp (disch := omega) only [not_true_eq_false, not_false_eq_true, br_u_s, br_u_n, br_u_q, nI_eq, nI_clamp, nI_add, pk_mul, br_R17, br_S17, pk_sub_toInt, br_ltT, br_leT, br_inT, br_nT, br_negT, br_b_0, br_b_1, Int32.toInt_toInt64, pk_lT, br_lnegT] <;> omega)); done)))
          | (refine And.intro ?_ ?_; (focus ((first | rfl | assumption | exact fun z => z rfl | omega | (simp (disch := omega) only [not_true_eq_false, not_false_eq_true, br_u_s, br_u_n, br_u_q, nI_eq, nI_clamp, nI_add, pk_mul, br_R17, br_S17, pk_sub_toInt, br_ltT, br_leT, br_inT, br_nT, br_negT, br_b_0, br_b_1, Int32.toInt_toInt64, pk_lT, br_lnegT] <;> omega)); done))))
  · refine br_pair_no hI (k := 2) (by omega) (v := -(nI 2)) (fun d Q H => ?_) (fun d Q H => ?_)
    · repeat (first
        | exact H
        | (refine br_t ?_ ?_; (focus ((first | rfl | assumption | exact fun z => z rfl | omega | (simp (disch := omega) only [not_true_eq_false, not_false_eq_true, br_u_s, br_u_n, br_u_q, nI_eq, nI_clamp, nI_add, pk_mul, br_R17, br_S17, pk_sub_toInt, br_ltT, br_leT, br_inT, br_nT, br_negT, br_b_0, br_b_1, Int32.toInt_toInt64, pk_lT, br_lnegT] <;> omega)); done)))
        | (refine br_f ?_ ?_; (focus ((first | rfl | assumption | exact fun z => z rfl | omega | (simp (disch := omega) only [not_true_eq_false, not_false_eq_true, br_u_s, br_u_n, br_u_q, nI_eq, nI_clamp, nI_add, pk_mul, br_R17, br_S17, pk_sub_toInt, br_ltT, br_leT, br_inT, br_nT, br_negT, br_b_0, br_b_1, Int32.toInt_toInt64, pk_lT, br_lnegT] <;> omega)); done)))
        | refine rb_A_row_0 ?_
        | refine rb_A_row_6 ?_
        | refine rb_A_row_15 ?_
        | refine rb_A_row_23 ?_
        | refine rb_A_row_31 ?_
        | refine rb_A_row_39 ?_
        | refine rb_A_row_64 ?_
        | (refine rs_out_F ?_ ?_; (focus ((first | rfl | assumption | exact fun z => z rfl | omega | (simp (disch := omega) only [not_true_eq_false, not_false_eq_true, br_u_s, br_u_n, br_u_q, nI_eq, nI_clamp, nI_add, pk_mul, br_R17, br_S17, pk_sub_toInt, br_ltT, br_leT, br_inT, br_nT, br_negT, br_b_0, br_b_1, Int32.toInt_toInt64, pk_lT, br_lnegT] <;> omega)); done)))
        | (refine rs_out_T ?_ ?_; (focus ((first | rfl | assumption | exact fun z => z rfl | omega | (simp (disch := omega) only [not_true_eq_false, not_false_eq_true, br_u_s, br_u_n, br_u_q, nI_eq, nI_clamp, nI_add, pk_mul, br_R17, br_S17, pk_sub_toInt, br_ltT, br_leT, br_inT, br_nT, br_negT, br_b_0, br_b_1, Int32.toInt_toInt64, pk_lT, br_lnegT] <;> omega)); done)))
        | (refine rs_noChild_F (N := N) ?_ ?_ ?_ ?_; (focus ((first | rfl | assumption | exact fun z => z rfl | omega | (simp (disch := omega) only [not_true_eq_false, not_false_eq_true, br_u_s, br_u_n, br_u_q, nI_eq, nI_clamp, nI_add, pk_mul, br_R17, br_S17, pk_sub_toInt, br_ltT, br_leT, br_inT, br_nT, br_negT, br_b_0, br_b_1, Int32.toInt_toInt64, pk_lT, br_lnegT] <;> omega)); done)); (focus ((first | rfl | assumption | exact fun z => z rfl | omega | (simp (disch := omega) only [not_true_eq_false, not_false_eq_true, br_u_s, br_u_n, br_u_q, nI_eq, nI_clamp, nI_add, pk_mul, br_R17, br_S17, pk_sub_toInt, br_ltT, br_leT, br_inT, br_nT, br_negT, br_b_0, br_b_1, Int32.toInt_toInt64, pk_lT, br_lnegT] <;> omega)); done)); (focus ((first | rfl | assumption | exact fun z => z rfl | omega | (simp (disch := omega) only [not_true_eq_false, not_false_eq_true, br_u_s, br_u_n, br_u_q, nI_eq, nI_clamp, nI_add, pk_mul, br_R17, br_S17, pk_sub_toInt, br_ltT, br_leT, br_inT, br_nT, br_negT, br_b_0, br_b_1, Int32.toInt_toInt64, pk_lT, br_lnegT] <;> omega)); done)))
        | (refine rs_noChild_T (N := N) ?_ ?_ ?_ ?_; (focus ((first | rfl | assumption | exact fun z => z rfl | omega | (simp (disch := omega) only [not_true_eq_false, not_false_eq_true, br_u_s, br_u_n, br_u_q, nI_eq, nI_clamp, nI_add, pk_mul, br_R17, br_S17, pk_sub_toInt, br_ltT, br_leT, br_inT, br_nT, br_negT, br_b_0, br_b_1, Int32.toInt_toInt64, pk_lT, br_lnegT] <;> omega)); done)); (focus ((first | rfl | assumption | exact fun z => z rfl | omega | (simp (disch := omega) only [not_true_eq_false, not_false_eq_true, br_u_s, br_u_n, br_u_q, nI_eq, nI_clamp, nI_add, pk_mul, br_R17, br_S17, pk_sub_toInt, br_ltT, br_leT, br_inT, br_nT, br_negT, br_b_0, br_b_1, Int32.toInt_toInt64, pk_lT, br_lnegT] <;> omega)); done)); (focus ((first | rfl | assumption | exact fun z => z rfl | omega | (simp (disch := omega) only [not_true_eq_false, not_false_eq_true, br_u_s, br_u_n, br_u_q, nI_eq, nI_clamp, nI_add, pk_mul, br_R17, br_S17, pk_sub_toInt, br_ltT, br_leT, br_inT, br_nT, br_negT, br_b_0, br_b_1, Int32.toInt_toInt64, pk_lT, br_lnegT] <;> omega)); done)))
        | (refine rs_noTest_F ?_ ?_; (focus ((first | rfl | assumption | exact fun z => z rfl | omega | (simp (disch := omega) only [not_true_eq_false, not_false_eq_true, br_u_s, br_u_n, br_u_q, nI_eq, nI_clamp, nI_add, pk_mul, br_R17, br_S17, pk_sub_toInt, br_ltT, br_leT, br_inT, br_nT, br_negT, br_b_0, br_b_1, Int32.toInt_toInt64, pk_lT, br_lnegT] <;> omega)); done)))
        | (refine rs_noTest_T ?_ ?_; (focus ((first | rfl | assumption | exact fun z => z rfl | omega | (simp (disch := omega) only [not_true_eq_false, not_false_eq_true, br_u_s, br_u_n, br_u_q, nI_eq, nI_clamp, nI_add, pk_mul, br_R17, br_S17, pk_sub_toInt, br_ltT, br_leT, br_inT, br_nT, br_negT, br_b_0, br_b_1, Int32.toInt_toInt64, pk_lT, br_lnegT] <;> omega)); done)))
        | (refine rs_refuse ?_ ?_; (focus ((first | rfl | assumption | exact fun z => z rfl | omega | (simp (disch := omega) only [not_true_eq_false, not_false_eq_true, br_u_s, br_u_n, br_u_q, nI_eq, nI_clamp, nI_add, pk_mul, br_R17, br_S17, pk_sub_toInt, br_ltT, br_leT, br_inT, br_nT, br_negT, br_b_0, br_b_1, Int32.toInt_toInt64, pk_lT, br_lnegT] <;> omega)); done)))
        | (refine And.intro ?_ ?_; (focus ((first | rfl | assumption | exact fun z => z rfl | omega | (simp (disch := omega) only [not_true_eq_false, not_false_eq_true, br_u_s, br_u_n, br_u_q, nI_eq, nI_clamp, nI_add, pk_mul, br_R17, br_S17, pk_sub_toInt, br_ltT, br_leT, br_inT, br_nT, br_negT, br_b_0, br_b_1, Int32.toInt_toInt64, pk_lT, br_lnegT] <;> omega)); done))))
    · repeat (first
        | exact H
        | (refine br_t ?_ ?_; (focus ((first | rfl | assumption | exact fun z => z rfl | omega | (simp (disch := omega) only [not_true_eq_false, not_false_eq_true, br_u_s, br_u_n, br_u_q, nI_eq, nI_clamp, nI_add, pk_mul, br_R17, br_S17, pk_sub_toInt, br_ltT, br_leT, br_inT, br_nT, br_negT, br_b_0, br_b_1, Int32.toInt_toInt64, pk_lT, br_lnegT] <;> omega)); done)))
        | (refine br_f ?_ ?_; (focus ((first | rfl | assumption | exact fun z => z rfl | omega | (simp (disch := omega) only [not_true_eq_false, not_false_eq_true, br_u_s, br_u_n, br_u_q, nI_eq, nI_clamp, nI_add, pk_mul, br_R17, br_S17, pk_sub_toInt, br_ltT, br_leT, br_inT, br_nT, br_negT, br_b_0, br_b_1, Int32.toInt_toInt64, pk_lT, br_lnegT] <;> omega)); done)))
        | refine rb_M_row_0 ?_
        | refine rb_M_row_14 ?_
        | refine rb_M_row_26 ?_
        | refine rb_M_row_35 ?_
        | refine rb_M_row_45 ?_
        | refine rb_M_row_54 ?_
        | refine rb_M_row_72 ?_
        | (refine rs_wi_T ?_ ?_; (focus ((first | rfl | assumption | exact fun z => z rfl | omega | (simp (disch := omega) only [not_true_eq_false, not_false_eq_true, br_u_s, br_u_n, br_u_q, nI_eq, nI_clamp, nI_add, pk_mul, br_R17, br_S17, pk_sub_toInt, br_ltT, br_leT, br_inT, br_nT, br_negT, br_b_0, br_b_1, Int32.toInt_toInt64, pk_lT, br_lnegT] <;> omega)); done)))
        | (refine rs_wi_F ?_ ?_; (focus ((first | rfl | assumption | exact fun z => z rfl | omega | (simp (disch := omega) only [not_true_eq_false, not_false_eq_true, br_u_s, br_u_n, br_u_q, nI_eq, nI_clamp, nI_add, pk_mul, br_R17, br_S17, pk_sub_toInt, br_ltT, br_leT, br_inT, br_nT, br_negT, br_b_0, br_b_1, Int32.toInt_toInt64, pk_lT, br_lnegT] <;> omega)); done)))
        | (refine rs_isChild_T (N := N) ?_ ?_ ?_ ?_; (focus ((first | rfl | assumption | exact fun z => z rfl | omega | (simp (disch := omega) only [not_true_eq_false, not_false_eq_true, br_u_s, br_u_n, br_u_q, nI_eq, nI_clamp, nI_add, pk_mul, br_R17, br_S17, pk_sub_toInt, br_ltT, br_leT, br_inT, br_nT, br_negT, br_b_0, br_b_1, Int32.toInt_toInt64, pk_lT, br_lnegT] <;> omega)); done)); (focus ((first | rfl | assumption | exact fun z => z rfl | omega | (simp (disch := omega) only [not_true_eq_false, not_false_eq_true, br_u_s, br_u_n, br_u_q, nI_eq, nI_clamp, nI_add, pk_mul, br_R17, br_S17, pk_sub_toInt, br_ltT, br_leT, br_inT, br_nT, br_negT, br_b_0, br_b_1, Int32.toInt_toInt64, pk_lT, br_lnegT] <;> omega)); done)); (focus ((first | rfl | assumption | exact fun z => z rfl | omega | (simp (disch := omega) only [not_true_eq_false, not_false_eq_true, br_u_s, br_u_n, br_u_q, nI_eq, nI_clamp, nI_add, pk_mul, br_R17, br_S17, pk_sub_toInt, br_ltT, br_leT, br_inT, br_nT, br_negT, br_b_0, br_b_1, Int32.toInt_toInt64, pk_lT, br_lnegT] <;> omega)); done)))
        | (refine rs_isChild_F (N := N) ?_ ?_ ?_ ?_; (focus ((first | rfl | assumption | exact fun z => z rfl | omega | (simp (disch := omega) only [not_true_eq_false, not_false_eq_true, br_u_s, br_u_n, br_u_q, nI_eq, nI_clamp, nI_add, pk_mul, br_R17, br_S17, pk_sub_toInt, br_ltT, br_leT, br_inT, br_nT, br_negT, br_b_0, br_b_1, Int32.toInt_toInt64, pk_lT, br_lnegT] <;> omega)); done)); (focus ((first | rfl | assumption | exact fun z => z rfl | omega | (simp (disch := omega) only [not_true_eq_false, not_false_eq_true, br_u_s, br_u_n, br_u_q, nI_eq, nI_clamp, nI_add, pk_mul, br_R17, br_S17, pk_sub_toInt, br_ltT, br_leT, br_inT, br_nT, br_negT, br_b_0, br_b_1, Int32.toInt_toInt64, pk_lT, br_lnegT] <;> omega)); done)); (focus ((first | rfl | assumption | exact fun z => z rfl | omega | (simp (disch := omega) only [not_true_eq_false, not_false_eq_true, br_u_s, br_u_n, br_u_q, nI_eq, nI_clamp, nI_add, pk_mul, br_R17, br_S17, pk_sub_toInt, br_ltT, br_leT, br_inT, br_nT, br_negT, br_b_0, br_b_1, Int32.toInt_toInt64, pk_lT, br_lnegT] <;> omega)); done)))
        | (refine rs_isTest_T ?_ ?_; (focus ((first | rfl | assumption | exact fun z => z rfl | omega | (simp (disch := omega) only [not_true_eq_false, not_false_eq_true, br_u_s, br_u_n, br_u_q, nI_eq, nI_clamp, nI_add, pk_mul, br_R17, br_S17, pk_sub_toInt, br_ltT, br_leT, br_inT, br_nT, br_negT, br_b_0, br_b_1, Int32.toInt_toInt64, pk_lT, br_lnegT] <;> omega)); done)))
        | (refine rs_isTest_F ?_ ?_; (focus ((first | rfl | assumption | exact fun z => z rfl | omega | (simp (disch := omega) only [not_true_eq_false, not_false_eq_true, br_u_s, br_u_n, br_u_q, nI_eq, nI_clamp, nI_add, pk_mul, br_R17, br_S17, pk_sub_toInt, br_ltT, br_leT, br_inT, br_nT, br_negT, br_b_0, br_b_1, Int32.toInt_toInt64, pk_lT, br_lnegT] <;> omega)); done)))
        | (refine rs_no ?_ ?_; (focus ((first | rfl | assumption | exact fun z => z rfl | omega | (simp (disch := omega) only [not_true_eq_false, not_false_eq_true, br_u_s, br_u_n, br_u_q, nI_eq, nI_clamp, nI_add, pk_mul, br_R17, br_S17, pk_sub_toInt, br_ltT, br_leT, br_inT, br_nT, br_negT, br_b_0, br_b_1, Int32.toInt_toInt64, pk_lT, br_lnegT] <;> omega)); done)))
        | (refine rs_pointOf ?_ ?_ ?_; (focus ((first | rfl | assumption | exact fun z => z rfl | omega | (simp (disch := omega) only [not_true_eq_false, not_false_eq_true, br_u_s, br_u_n, br_u_q, nI_eq, nI_clamp, nI_add, pk_mul, br_R17, br_S17, pk_sub_toInt, br_ltT, br_leT, br_inT, br_nT, br_negT, br_b_0, br_b_1, Int32.toInt_toInt64, pk_lT, br_lnegT] <;> omega)); done)); (focus ((first | rfl | assumption | exact fun z => z rfl | omega | (simp (disch := omega) only [not_true_eq_false, not_false_eq_true, br_u_s, br_u_n, br_u_q, nI_eq, nI_clamp, nI_add, pk_mul, br_R17, br_S17, pk_sub_toInt, br_ltT, br_leT, br_inT, br_nT, br_negT, br_b_0, br_b_1, Int32.toInt_toInt64, pk_lT, br_lnegT] <;> omega)); done)))
        | (refine And.intro ?_ ?_; (focus ((first | rfl | assumption | exact fun z => z rfl | omega | (simp (disch := omega) only [not_true_eq_false, not_false_eq_true, br_u_s, br_u_n, br_u_q, nI_eq, nI_clamp, nI_add, pk_mul, br_R17, br_S17, pk_sub_toInt, br_ltT, br_leT, br_inT, br_nT, br_negT, br_b_0, br_b_1, Int32.toInt_toInt64, pk_lT, br_lnegT] <;> omega)); done))))
def bm_cut (x : Int64) : Nat → Int64
  | 0 => x.toInt32.toInt8.toInt32.toInt64
  | 1 => x.toInt32.toInt16.toInt32.toInt64
  | 2 => x.toInt32.toInt64
  | _ => x
theorem rs_cutA {d : Nat} {Q : br_Q} {x : Int64} {s : Nat} (hs : s ≤ 3) (H : Q (some (.long (bm_cut x s))) (br_hp n I L)) : br_r d 179 0 [some (.long x), none, some (.int (nI s))] [] (br_hp n I L) Q := by
  refine rb_A_cut_0 ?_
  rcases (by omega : s = 0 ∨ s = 1 ∨ s = 2 ∨ s = 3) with rfl | rfl | rfl | rfl
  · exact br_t rfl H
  · exact br_f (by decide +kernel) (br_t rfl H)
  · exact br_f (by decide +kernel) (br_f (by decide +kernel) (br_t rfl H))
  · exact br_f (by decide +kernel) (br_f (by decide +kernel) (br_f (by decide +kernel) H))
theorem rs_cutM {d : Nat} {Q : br_Q} {x : Int64} {s : Nat} (hs : s ≤ 3) (H : Q (some (.long (bm_cut x s))) (br_hp n I L)) : br_r d 293 0 [some (.long x), none, some (.int (nI s))] [] (br_hp n I L) Q := by
  refine rb_M_cut_0 ?_
  rcases (by omega : s = 0 ∨ s = 1 ∨ s = 2 ∨ s = 3) with rfl | rfl | rfl | rfl
  · exact br_f (fun z => z rfl) H
  · exact br_t (by decide +kernel) (br_f (fun z => z rfl) H)
  · exact br_t (by decide +kernel) (br_t (by decide +kernel) (br_f (fun z => z rfl) H))
  · exact br_t (by decide +kernel) (br_t (by decide +kernel) (br_t (by decide +kernel) H))
theorem br_pair_noJ {jA jM : Nat} {aA aM : br_V} (hI : br_Inv xs I L) {k : Nat} (hk : k < 8) {v : Int64} (hA : br_do n 80 jA aA I L (some (.long v)) (br_u I 82 k (I 82 k + nI 1)) L)
    (hM : br_do n 80 jM aM (br_u I 82 k (I 82 k + nI 1)) L (some (.long v)) (br_u (br_u (br_u I 82 k (I 82 k + nI 1)) 169 0 (nI 0)) 170 k ((br_u (br_u I 82 k (I 82 k + nI 1)) 169 0 (nI 0)) 170 k + nI 1)) L) : br_pairJ n xs jA jM aA aM I L := by
  refine br_pcJ ⟨_, _, _, _, _, hA, hM, fun j => br_u_n (by omega), br_Inv_no hI hk ?_ ?_ (fun p j h1 h2 h3 => ?_)⟩
  · rw [br_u_n (by omega), br_u_n (by omega), br_u_s]
  · rw [br_u_s, br_u_n (by omega), br_u_n (by omega)]
  · unfold br_kA br_kO at h1
    rw [br_u_n (by omega), br_u_n (by omega), br_u_n (by omega)]
end
