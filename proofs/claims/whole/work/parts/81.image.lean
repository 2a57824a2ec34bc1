set_option maxRecDepth 100000
set_option maxHeartbeats 4000000
section
variable {n : Nat} {xs : Nat → Int32} {I : Nat → Nat → Int32} {L : Nat → Nat → Int64}
theorem br_R52 {i : Nat} (hi : i < 2) : br_R0 52 i = 83 + 43 * i := by
  rcases (by omega : i = 0 ∨ i = 1) with rfl | rfl <;> rfl
theorem br_kept01 {w o : Nat} (h : br_W w o I) : ∀ t, t < 4 → I (w + 19) t = nI 0 ∨ I (w + 19) t = nI 1 := by
  intro t ht
  have h1 : I (w + 19) (0 + t) = I 171 (o + (100 + t)) ∧ 0 ≤ (I 171 (o + (100 + t))).toInt ∧ (I 171 (o + (100 + t))).toInt ≤ 1 := h.1 (19, 0, 4, 100, 0, 1) (by decide +kernel) t ht
  obtain ⟨e1, e2, e3⟩ := h1
  rw [Nat.zero_add] at e1
  obtain ⟨k, ek, hk⟩ := br_nN e2
  rw [e1, ek]
  rcases (by omega : k = 0 ∨ k = 1) with rfl | rfl
  · exact Or.inl rfl
  · exact Or.inr rfl
/-- all copied, from one world to another -/
theorem rs_copyTo {d i : Nat} {Q : br_Q} {z2 : Option Value} (hi : i < 2) (hW : br_W 9 0 I) (H : ∀ J : Nat → Nat → Int32, (∀ p j, ¬ (83 + 43 * i ≤ p ∧ p ≤ 83 + 43 * i + 42) → J p j = I p j) → (∀ q j, br_al q j → J (83 + 43 * i + q) j = I (9 + q) j) → Q none (br_hp n J L)) :
    br_r (d + 1) 182 0 [some (.ref (83 + 43 * i)), some (.ref 9), z2] [] (br_hp n I L) Q := by
  rcases (by omega : i = 0 ∨ i = 1) with rfl | rfl
  · exact rs_copy_a (br_kept01 hW) H
  · exact rs_copy_b (br_kept01 hW) H
theorem rs_copyFrom {d i : Nat} {Q : br_Q} {z2 : Option Value} (hi : i < 2) {o : Nat} (hW : br_W (83 + 43 * i) o I) (H : ∀ J : Nat → Nat → Int32, (∀ p j, ¬ (9 ≤ p ∧ p ≤ 51) → J p j = I p j) → (∀ q j, br_al q j → J (9 + q) j = I (83 + 43 * i + q) j) → Q none (br_hp n J L)) :
    br_r (d + 1) 182 0 [some (.ref 9), some (.ref (83 + 43 * i)), z2] [] (br_hp n I L) Q := by
  rcases (by omega : i = 0 ∨ i = 1) with rfl | rfl
  · exact rs_copy_c (br_kept01 hW) H
  · exact rs_copy_d (br_kept01 hW) H
theorem bp_image (hI : br_Inv xs I L) (x1 : Int32) : br_pair n xs 181 295 [some (.ref 8), some (.int x1)] [some (.ref 169), some (.int x1), none] I L := by
  by_cases h1 : 0 ≤ x1.toInt ∧ x1.toInt ≤ 1
  · obtain ⟨i, ei, hi⟩ := br_nN h1.1
    subst ei
    have hi2 : i < 2 := by omega
    have e52 := br_R52 hi2
    have s52 : br_S0 n (83 + 43 * i) = (0, 10) := by rcases (by omega : i = 0 ∨ i = 1) with rfl | rfl <;> rfl
    intro d Q K
    refine rb_A_image_0 (rs_out_F ?_ (rb_A_image_6 (br_t rfl ?_)))
    · rw [nI_toInt (show 0 < 2 ^ 31 by omega), nI_toInt (show 1 < 2 ^ 31 by omega)]; exact h1
    rw [nI_clamp (by omega), e52, s52]
    refine ⟨vp_in_nI hi2 (by omega), rfl, rs_copyTo hi2 hI.1 (fun J h2 h3 => rb_A_image_28 ?_)⟩
    rw [nI_clamp (by omega)]
    refine ⟨vp_in_nI hi2 (by omega), K (nI 0) _ _ (fun j => by rw [br_u_n (by omega), h2 1 j (by omega)]) (fun d' Q' k' => ?_)⟩
    generalize hM : br_u (br_u J 53 i (nI 1)) 169 0 (nI 0) = M
    have m171 : M 171 = I 171 := by
      rw [← hM, br_u_q (by omega), br_u_q (by omega)]; funext j; exact h2 171 j (by omega)
    have loop : ∀ k t, t + k = 1389 → br_r (d' + 80) 295 24 [some (.ref 169), some (.int (nI i)), some (.int (nI t))] [] (br_hp n (br_row M 171 (1389 * (i + 1)) (I 171) t) L) Q' := by
      intro k
      induction k with
      | zero =>
        intro t ht
        have : t = 1389 := by omega
        subst this
        refine rb_M_image_24 (br_t (nI_le (Nat.le_refl 1389) (by omega)) ?_)
        rw [nI_clamp (by omega)]
        refine ⟨vp_in_nI hi2 (by omega), k' _ _ ?_⟩
        -- the invariant
        have rd : ∀ p j, ¬ (p = 53 ∧ j = i) → ¬ (p = 172 ∧ j = i) → ¬ (p = 169 ∧ j = 0) → ¬ (p = 171 ∧ 1389 * (i + 1) ≤ j ∧ j < 1389 * (i + 1) + 1389) → br_u (br_row M 171 (1389 * (i + 1)) (I 171) 1389) 172 i (nI 1) p j = J p j := by
          intro p j q1 q2 q3 q4
          rw [br_u_n (by omega), br_row_n (by omega), ← hM, br_u_n (by omega), br_u_n (by omega)]
        refine ⟨br_W_c hI.1 (fun p j q1 q2 => by rw [rd p j (by omega) (by omega) (by omega) (by omega), h2 p j (by omega)]) (fun k hk => by rw [rd _ _ (by omega) (by omega) (by omega) (by omega), h2 _ _ (by omega)]), ⟨?_, ?_, ?_, ?_, ?_⟩, ?_, hI.2.2.2.1, ?_⟩
        · intro i' hi'
          by_cases e : i' = i
          · subst e
            refine Or.inr ⟨?_, br_u_s, ?_⟩
            · rw [br_u_n (by omega), br_row_n (by omega), ← hM, br_u_n (by omega), br_u_s]
            · refine br_W_al (w := 9) (o := 0) hI.1 (fun q j hq => ?_) (fun k hk => ?_)
              · have hq42 : q ≤ 42 := by unfold br_al br_alB at hq; rw [decide_eq_true_eq] at hq; omega
                rw [rd _ _ (by omega) (by omega) (by omega) (by omega)]
                exact h3 q j hq
              · rw [br_u_n (by omega), br_row_i hk, Nat.zero_add]
          · rw [rd 53 i' (by omega) (by omega) (by omega) (by omega), rd 172 i' (by omega) (by omega) (by omega) (by omega), h2 53 i' (by omega), h2 172 i' (by omega)]
            rcases hI.2.1.1 i' hi' with h5 | ⟨h5, h6, h7⟩
            · exact Or.inl h5
            · refine Or.inr ⟨h5, h6, br_W_c h7 (fun p j q1 q2 => ?_) (fun k hk => ?_)⟩
              · rw [rd p j (by omega) (by omega) (by omega) (by omega), h2 p j (by omega)]
              · rw [rd _ _ (by omega) (by omega) (by omega) (by rcases (by omega : (i = 0 ∧ i' = 1) ∨ (i = 1 ∧ i' = 0)) with ⟨rfl, rfl⟩ | ⟨rfl, rfl⟩ <;> omega), h2 _ _ (by omega)]
        · exact br_rw_d hI.2.1.2.1 (fun p j hp => by rw [rd p j (by omega) (by omega) (by omega) (by omega), h2 p j (by omega)]) (fun _ _ _ => rfl)
        · exact br_tp_d hI.2.1.2.2.1 (fun p j hp => by rw [rd p j (by omega) (by omega) (by omega) (by omega), h2 p j (by omega)])
        · exact br_ft_d hI.2.1.2.2.2.1 (fun p j hp => by rw [rd p j (by omega) (by omega) (by omega) (by omega), h2 p j (by omega)])
        · intro p j hp
          rw [rd p j (by omega) (by omega) (by omega) (by omega), h2 p j (by omega)]
          exact hI.2.1.2.2.2.2 p j hp
        · exact br_rf_c hI.2.2.1 (fun j => by rw [rd 82 j (by omega) (by omega) (by omega) (by omega), h2 82 j (by omega)]) (fun j => by rw [rd 170 j (by omega) (by omega) (by omega) (by omega), h2 170 j (by omega)])
        · exact br_wy_c hI.2.2.2.2 (by rw [rd 169 25 (by omega) (by omega) (by omega) (by omega), h2 169 25 (by omega)]) (by rw [rd 169 26 (by omega) (by omega) (by omega) (by omega), h2 169 26 (by omega)]) (fun _ => rfl)
      | succ k ih =>
        intro t ht
        have h5 := ih (t + 1) (by omega)
        rw [br_row_s] at h5
        refine rb_M_image_24 (br_f (nI_ge (b := 1389) (by omega) (by omega)) ?_)
        rw [nI_add, pk_mul, nI_add, nI_clamp (by omega), nI_clamp (by omega), nI_add, br_row_n (by omega), m171]
        exact ⟨vp_in_nI (by omega) (by omega), vp_in_nI (by omega) (by omega), h5⟩
    have l0 := loop 1389 0 (by omega)
    rw [br_row_0, ← hM] at l0
    refine rb_M_image_0 (rs_wi_T ?_ (rb_M_image_12 (br_t br_10 l0)))
    rw [pk_lT (by omega), pk_lT (by omega), Int32.toInt_toInt64]; exact h1
  · refine br_pair_no hI (k := 2) (by omega) (v := -(nI 2)) (fun d Q H => ?_) (fun d Q H => ?_)
    · repeat (first
        | exact H
        | (refine br_t ?_ ?_; (focus ((first | rfl | assumption | exact fun z => z rfl | omega | (simp (disch := omega) only [not_true_eq_false, not_false_eq_true, br_u_s, br_u_n, br_u_q, nI_eq, nI_clamp, nI_add, pk_mul, br_R17, br_S17, pk_sub_toInt, br_ltT, br_leT, br_inT, br_nT, br_negT, br_b_0, br_b_1, Int32.toInt_toInt64, pk_lT, br_lnegT] <;> omega)); done)))
        | (refine br_f ?_ ?_; (focus ((first | rfl | assumption | exact fun z => z rfl | omega | (simp (disch := omega) only [not_true_eq_false, not_false_eq_true, br_u_s, br_u_n, br_u_q, nI_eq, nI_clamp, nI_add, pk_mul, br_R17, br_S17, pk_sub_toInt, br_ltT, br_leT, br_inT, br_nT, br_negT, br_b_0, br_b_1, Int32.toInt_toInt64, pk_lT, br_lnegT] <;> omega)); done)))
        | refine rb_A_image_0 ?_
        | refine rb_A_image_6 ?_
        | refine rb_A_image_14 ?_
        | refine rb_A_image_28 ?_
        | (refine rs_out_F ?_ ?_; (focus ((first | rfl | assumption | exact fun z => z rfl | omega | (simp (disch := omega) only [not_true_eq_false, not_false_eq_true, br_u_s, br_u_n, br_u_q, nI_eq, nI_clamp, nI_add, pk_mul, br_R17, br_S17, pk_sub_toInt, br_ltT, br_leT, br_inT, br_nT, br_negT, br_b_0, br_b_1, Int32.toInt_toInt64, pk_lT, br_lnegT] <;> omega)); done)))
        | (refine rs_out_T ?_ ?_; (focus ((first | rfl | assumption | exact fun z => z rfl | omega | (simp (disch := omega) only [not_true_eq_false, not_false_eq_true, br_u_s, br_u_n, br_u_q, nI_eq, nI_clamp, nI_add, pk_mul, br_R17, br_S17, pk_sub_toInt, br_ltT, br_leT, br_inT, br_nT, br_negT, br_b_0, br_b_1, Int32.toInt_toInt64, pk_lT, br_lnegT] <;> omega)); done)))
        | (refine rs_noChild_F (N := N) ?_ ?_ ?_ ?_; (focus ((first | rfl | assumption | exact fun z => z rfl | omega | (simp (disch := omega) only [not_true_eq_false, not_false_eq_true, br_u_s, br_u_n, br_u_q, nI_eq, nI_clamp, nI_add, pk_mul, br_R17, br_S17, pk_sub_toInt, br_ltT, br_leT, br_inT, br_nT, br_negT, br_b_0, br_b_1, Int32.toInt_toInt64, pk_lT, br_lnegT] <;> omega)); done)); (focus ((first | rfl | assumption | exact fun z => z rfl | omega | (simp (disch := omega) only [not_true_eq_false, not_false_eq_true, br_u_s, br_u_n, br_u_q, nI_eq, nI_clamp, nI_add, pk_mul, br_R17, br_S17, pk_sub_toInt, br_ltT, br_leT, br_inT, br_nT, br_negT, br_b_0, br_b_1, Int32.toInt_toInt64, pk_lT, br_lnegT] <;> omega)); done)); (focus ((first | rfl | assumption | exact fun z => z rfl | omega | (simp (disch := omega) only [not_true_eq_false, not_false_eq_true, br_u_s, br_u_n, br_u_q, nI_eq, nI_clamp, nI_add, pk_mul, br_R17, br_S17, pk_sub_toInt, br_ltT, br_leT, br_inT, br_nT, br_negT, br_b_0, br_b_1, Int32.toInt_toInt64, pk_lT, br_lnegT] <;> omega)); done)))
        | (refine rs_noChild_T (N := N) ?_ ?_ ?_ ?_; (focus ((first | rfl | assumption | exact fun z => z rfl | omega | (simp (disch := omega) only [not_true_eq_false, not_false_eq_true, br_u_s, br_u_n, br_u_q, nI_eq, nI_clamp, nI_add, pk_mul, br_R17, br_S17, pk_sub_toInt, br_ltT, br_leT, br_inT, br_nT, br_negT, br_b_0, br_b_1, Int32.toInt_toInt64, pk_lT, br_lnegT] <;> omega)); done)); (focus ((first | rfl | assumption | exact fun z => z rfl | omega | (simp (disch := omega) only [not_true_eq_false, not_false_eq_true, br_u_s, br_u_n, br_u_q, nI_eq, nI_clamp, nI_add, pk_mul, br_R17, br_S17, pk_sub_toInt, br_ltT, br_leT, br_inT, br_nT, br_negT, br_b_0, br_b_1, Int32.toInt_toInt64, pk_lT, br_lnegT] <;> omega)); done)); (focus ((first | rfl | assumption | exact fun z => z rfl | omega | (simp (disch := omega) only [not_true_eq_false, not_false_eq_true, br_u_s, br_u_n, br_u_q, nI_eq, nI_clamp, nI_add, pk_mul, br_R17, br_S17, pk_sub_toInt, br_ltT, br_leT, br_inT, br_nT, br_negT, br_b_0, br_b_1, Int32.toInt_toInt64, pk_lT, br_lnegT] <;> omega)); done)))
        | (refine rs_noTest_F ?_ ?_; (focus ((first | rfl | assumption | exact fun z => z rfl | omega | (simp (disch := omega) only [not_true_eq_false, not_false_eq_true, br_u_s, br_u_n, br_u_q, nI_eq, nI_clamp, nI_add, pk_mul, br_R17, br_S17, pk_sub_toInt, br_ltT, br_leT, br_inT, br_nT, br_negT, br_b_0, br_b_1, Int32.toInt_toInt64, pk_lT, br_lnegT] <;> omega)); done)))
        | (refine rs_noTest_T ?_ ?_; (focus ((first | rfl | assumption | exact fun z => z rfl | omega | (simp (disch := omega) only [not_true_eq_false, not_false_eq_true, br_u_s, br_u_n, br_u_q, nI_eq, nI_clamp, nI_add, pk_mul, br_R17, br_S17, pk_sub_toInt, br_ltT, br_leT, br_inT, br_nT, br_negT, br_b_0, br_b_1, Int32.toInt_toInt64, pk_lT, br_lnegT] <;> omega)); done)))
        | (refine rs_refuse ?_ ?_; (focus ((first | rfl | assumption | exact fun z => z rfl | omega | (simp (disch := omega) only [not_true_eq_false, not_false_eq_true, br_u_s, br_u_n, br_u_q, nI_eq, nI_clamp, nI_add, pk_mul, br_R17, br_S17, pk_sub_toInt, br_ltT, br_leT, br_inT, br_nT, br_negT, br_b_0, br_b_1, Int32.toInt_toInt64, pk_lT, br_lnegT] <;> omega)); done)))
        | (refine And.intro ?_ ?_; (focus ((first | rfl | assumption | exact fun z => z rfl | omega | (simp (disch := omega) only [not_true_eq_false, not_false_eq_true, br_u_s, br_u_n, br_u_q, nI_eq, nI_clamp, nI_add, pk_mul, br_R17, br_S17, pk_sub_toInt, br_ltT, br_leT, br_inT, br_nT, br_negT, br_b_0, br_b_1, Int32.toInt_toInt64, pk_lT, br_lnegT] <;> omega)); done))))
    · repeat (first
        | exact H
        | (refine br_t ?_ ?_; (focus ((first | rfl | assumption | exact fun z => z rfl | omega | (simp (disch := omega) only [not_true_eq_false, not_false_eq_true, br_u_s, br_u_n, br_u_q, nI_eq, nI_clamp, nI_add, pk_mul, br_R17, br_S17, pk_sub_toInt, br_ltT, br_leT, br_inT, br_nT, br_negT, br_b_0, br_b_1, Int32.toInt_toInt64, pk_lT, br_lnegT] <;> omega)); done)))
        | (refine br_f ?_ ?_; (focus ((first | rfl | assumption | exact fun z => z rfl | omega | (simp (disch := omega) only [not_true_eq_false, not_false_eq_true, br_u_s, br_u_n, br_u_q, nI_eq, nI_clamp, nI_add, pk_mul, br_R17, br_S17, pk_sub_toInt, br_ltT, br_leT, br_inT, br_nT, br_negT, br_b_0, br_b_1, Int32.toInt_toInt64, pk_lT, br_lnegT] <;> omega)); done)))
        | refine rb_M_image_0 ?_
        | refine rb_M_image_12 ?_
        | refine rb_M_image_21 ?_
        | (refine rs_wi_T ?_ ?_; (focus ((first | rfl | assumption | exact fun z => z rfl | omega | (simp (disch := omega) only [not_true_eq_false, not_false_eq_true, br_u_s, br_u_n, br_u_q, nI_eq, nI_clamp, nI_add, pk_mul, br_R17, br_S17, pk_sub_toInt, br_ltT, br_leT, br_inT, br_nT, br_negT, br_b_0, br_b_1, Int32.toInt_toInt64, pk_lT, br_lnegT] <;> omega)); done)))
        | (refine rs_wi_F ?_ ?_; (focus ((first | rfl | assumption | exact fun z => z rfl | omega | (simp (disch := omega) only [not_true_eq_false, not_false_eq_true, br_u_s, br_u_n, br_u_q, nI_eq, nI_clamp, nI_add, pk_mul, br_R17, br_S17, pk_sub_toInt, br_ltT, br_leT, br_inT, br_nT, br_negT, br_b_0, br_b_1, Int32.toInt_toInt64, pk_lT, br_lnegT] <;> omega)); done)))
        | (refine rs_isChild_T (N := N) ?_ ?_ ?_ ?_; (focus ((first | rfl | assumption | exact fun z => z rfl | omega | (simp (disch := omega) only [not_true_eq_false, not_false_eq_true, br_u_s, br_u_n, br_u_q, nI_eq, nI_clamp, nI_add, pk_mul, br_R17, br_S17, pk_sub_toInt, br_ltT, br_leT, br_inT, br_nT, br_negT, br_b_0, br_b_1, Int32.toInt_toInt64, pk_lT, br_lnegT] <;> omega)); done)); (focus ((first | rfl | assumption | exact fun z => z rfl | omega | (simp (disch := omega) only [not_true_eq_false, not_false_eq_true, br_u_s, br_u_n, br_u_q, nI_eq, nI_clamp, nI_add, pk_mul, br_R17, br_S17, pk_sub_toInt, br_ltT, br_leT, br_inT, br_nT, br_negT, br_b_0, br_b_1, Int32.toInt_toInt64, pk_lT, br_lnegT] <;> omega)); done)); (focus ((first | rfl | assumption | exact fun z => z rfl | omega | (simp (disch := omega) only [not_true_eq_false, not_false_eq_true, br_u_s, br_u_n, br_u_q, nI_eq, nI_clamp, nI_add, pk_mul, br_R17, br_S17, pk_sub_toInt, br_ltT, br_leT, br_inT, br_nT, br_negT, br_b_0, br_b_1, Int32.toInt_toInt64, pk_lT, br_lnegT] <;> omega)); done)))
        | (refine rs_isChild_F (N := N) ?_ ?_ ?_ ?_; (focus ((first | rfl | assumption | exact fun z => z rfl | omega | (simp (disch := omega) only [not_true_eq_false, not_false_eq_true, br_u_s, br_u_n, br_u_q, nI_eq, nI_clamp, nI_add, pk_mul, br_R17, br_S17, pk_sub_toInt, br_ltT, br_leT, br_inT, br_nT, br_negT, br_b_0, br_b_1, Int32.toInt_toInt64, pk_lT, br_lnegT] <;> omega)); done)); (focus ((first | rfl | assumption | exact fun z => z rfl | omega | (simp (disch := omega) only [not_true_eq_false, not_false_eq_true, br_u_s, br_u_n, br_u_q, nI_eq, nI_clamp, nI_add, pk_mul, br_R17, br_S17, pk_sub_toInt, br_ltT, br_leT, br_inT, br_nT, br_negT, br_b_0, br_b_1, Int32.toInt_toInt64, pk_lT, br_lnegT] <;> omega)); done)); (focus ((first | rfl | assumption | exact fun z => z rfl | omega | (simp (disch := omega) only [not_true_eq_false, not_false_eq_true, br_u_s, br_u_n, br_u_q, nI_eq, nI_clamp, nI_add, pk_mul, br_R17, br_S17, pk_sub_toInt, br_ltT, br_leT, br_inT, br_nT, br_negT, br_b_0, br_b_1, Int32.toInt_toInt64, pk_lT, br_lnegT] <;> omega)); done)))
        | (refine rs_isTest_T ?_ ?_; (focus ((first | rfl | assumption | exact fun z => z rfl | omega | (simp (disch := omega) only [not_true_eq_false, not_false_eq_true, br_u_s, br_u_n, br_u_q, nI_eq, nI_clamp, nI_add, pk_mul, br_R17, br_S17, pk_sub_toInt, br_ltT, br_leT, br_inT, br_nT, br_negT, br_b_0, br_b_1, Int32.toInt_toInt64, pk_lT, br_lnegT] <;> omega)); done)))
        | (refine rs_isTest_F ?_ ?_; (focus ((first | rfl | assumption | exact fun z => z rfl | omega | (simp (disch := omega) only [not_true_eq_false, not_false_eq_true, br_u_s, br_u_n, br_u_q, nI_eq, nI_clamp, nI_add, pk_mul, br_R17, br_S17, pk_sub_toInt, br_ltT, br_leT, br_inT, br_nT, br_negT, br_b_0, br_b_1, Int32.toInt_toInt64, pk_lT, br_lnegT] <;> omega)); done)))
        | (refine rs_no ?_ ?_; (focus ((first | rfl | assumption | exact fun z => z rfl | omega | (simp (disch := omega) only [not_true_eq_false, not_false_eq_true, br_u_s, br_u_n, br_u_q, nI_eq, nI_clamp, nI_add, pk_mul, br_R17, br_S17, pk_sub_toInt, br_ltT, br_leT, br_inT, br_nT, br_negT, br_b_0, br_b_1, Int32.toInt_toInt64, pk_lT, br_lnegT] <;> omega)); done)))
        | (refine rs_pointOf ?_ ?_ ?_; (focus ((first | rfl | assumption | exact fun z => z rfl | omega | (simp (disch := omega) only [not_true_eq_false, not_false_eq_true, br_u_s, br_u_n, br_u_q, nI_eq, nI_clamp, nI_add, pk_mul, br_R17, br_S17, pk_sub_toInt, br_ltT, br_leT, br_inT, br_nT, br_negT, br_b_0, br_b_1, Int32.toInt_toInt64, pk_lT, br_lnegT] <;> omega)); done)); (focus ((first | rfl | assumption | exact fun z => z rfl | omega | (simp (disch := omega) only [not_true_eq_false, not_false_eq_true, br_u_s, br_u_n, br_u_q, nI_eq, nI_clamp, nI_add, pk_mul, br_R17, br_S17, pk_sub_toInt, br_ltT, br_leT, br_inT, br_nT, br_negT, br_b_0, br_b_1, Int32.toInt_toInt64, pk_lT, br_lnegT] <;> omega)); done)))
        | (refine And.intro ?_ ?_; (focus ((first | rfl | assumption | exact fun z => z rfl | omega | (simp (disch := omega) only [not_true_eq_false, not_false_eq_true, br_u_s, br_u_n, br_u_q, nI_eq, nI_clamp, nI_add, pk_mul, br_R17, br_S17, pk_sub_toInt, br_ltT, br_leT, br_inT, br_nT, br_negT, br_b_0, br_b_1, Int32.toInt_toInt64, pk_lT, br_lnegT] <;> omega)); done))))
theorem bp_restore (hI : br_Inv xs I L) (x1 : Int32) : br_pair n xs 186 296 [some (.ref 8), some (.int x1)] [some (.ref 169), some (.int x1), none] I L := by
  by_cases h1 : 0 ≤ x1.toInt ∧ x1.toInt ≤ 1
  · obtain ⟨i, ei, hi⟩ := br_nN h1.1
    subst ei
    have hi2 : i < 2 := by omega
    have e52 := br_R52 hi2
    rcases hI.2.1.1 i hi2 with ⟨g1, g2⟩ | ⟨g1, g2, g3⟩
    · refine br_pair_no hI (k := 5) (by omega) (v := -(nI 5)) (fun d Q H => ?_) (fun d Q H => ?_)
      · repeat (first
          | exact H
          | (refine br_t ?_ ?_; (focus ((first | rfl | assumption | exact fun z => z rfl | omega | (simp (disch := omega) only [not_true_eq_false, not_false_eq_true, br_u_s, br_u_n, br_u_q, nI_eq, nI_clamp, nI_add, pk_mul, br_R17, br_S17, pk_sub_toInt, br_ltT, br_leT, br_inT, br_nT, br_negT, br_b_0, br_b_1, Int32.toInt_toInt64, pk_lT, br_lnegT, g1] <;> omega)); done)))
          | (refine br_f ?_ ?_; (focus ((first | rfl | assumption | exact fun z => z rfl | omega | (simp (disch := omega) only [not_true_eq_false, not_false_eq_true, br_u_s, br_u_n, br_u_q, nI_eq, nI_clamp, nI_add, pk_mul, br_R17, br_S17, pk_sub_toInt, br_ltT, br_leT, br_inT, br_nT, br_negT, br_b_0, br_b_1, Int32.toInt_toInt64, pk_lT, br_lnegT, g1] <;> omega)); done)))
          | refine rb_A_restore_0 ?_
          | refine rb_A_restore_6 ?_
          | refine rb_A_restore_14 ?_
          | refine rb_A_restore_29 ?_
          | refine rb_A_restore_43 ?_
          | (refine rs_out_F ?_ ?_; (focus ((first | rfl | assumption | exact fun z => z rfl | omega | (simp (disch := omega) only [not_true_eq_false, not_false_eq_true, br_u_s, br_u_n, br_u_q, nI_eq, nI_clamp, nI_add, pk_mul, br_R17, br_S17, pk_sub_toInt, br_ltT, br_leT, br_inT, br_nT, br_negT, br_b_0, br_b_1, Int32.toInt_toInt64, pk_lT, br_lnegT, g1] <;> omega)); done)))
          | (refine rs_out_T ?_ ?_; (focus ((first | rfl | assumption | exact fun z => z rfl | omega | (simp (disch := omega) only [not_true_eq_false, not_false_eq_true, br_u_s, br_u_n, br_u_q, nI_eq, nI_clamp, nI_add, pk_mul, br_R17, br_S17, pk_sub_toInt, br_ltT, br_leT, br_inT, br_nT, br_negT, br_b_0, br_b_1, Int32.toInt_toInt64, pk_lT, br_lnegT, g1] <;> omega)); done)))
          | (refine rs_noChild_F (N := N) ?_ ?_ ?_ ?_; (focus ((first | rfl | assumption | exact fun z => z rfl | omega | (simp (disch := omega) only [not_true_eq_false, not_false_eq_true, br_u_s, br_u_n, br_u_q, nI_eq, nI_clamp, nI_add, pk_mul, br_R17, br_S17, pk_sub_toInt, br_ltT, br_leT, br_inT, br_nT, br_negT, br_b_0, br_b_1, Int32.toInt_toInt64, pk_lT, br_lnegT, g1] <;> omega)); done)); (focus ((first | rfl | assumption | exact fun z => z rfl | omega | (simp (disch := omega) only [not_true_eq_false, not_false_eq_true, br_u_s, br_u_n, br_u_q, nI_eq, nI_clamp, nI_add, pk_mul, br_R17, br_S17, pk_sub_toInt, br_ltT, br_leT, br_inT, br_nT, br_negT, br_b_0, br_b_1, Int32.toInt_toInt64, pk_lT, br_lnegT, g1] <;> omega)); done)); (focus ((first | rfl | assumption | exact fun z => z rfl | omega | (simp (disch := omega) only [not_true_eq_false, not_false_eq_true, br_u_s, br_u_n, br_u_q, nI_eq, nI_clamp, nI_add, pk_mul, br_R17, br_S17, pk_sub_toInt, br_ltT, br_leT, br_inT, br_nT, br_negT, br_b_0, br_b_1, Int32.toInt_toInt64, pk_lT, br_lnegT, g1] <;> omega)); done)))
          | (refine rs_noChild_T (N := N) ?_ ?_ ?_ ?_; (focus ((first | rfl | assumption | exact fun z => z rfl | omega | (simp (disch := omega) only [not_true_eq_false, not_false_eq_true, br_u_s, br_u_n, br_u_q, nI_eq, nI_clamp, nI_add, pk_mul, br_R17, br_S17, pk_sub_toInt, br_ltT, br_leT, br_inT, br_nT, br_negT, br_b_0, br_b_1, Int32.toInt_toInt64, pk_lT, br_lnegT, g1] <;> omega)); done)); (focus ((first | rfl | assumption | exact fun z => z rfl | omega | (simp (disch := omega) only [not_true_eq_false, not_false_eq_true, br_u_s, br_u_n, br_u_q, nI_eq, nI_clamp, nI_add, pk_mul, br_R17, br_S17, pk_sub_toInt, br_ltT, br_leT, br_inT, br_nT, br_negT, br_b_0, br_b_1, Int32.toInt_toInt64, pk_lT, br_lnegT, g1] <;> omega)); done)); (focus ((first | rfl | assumption | exact fun z => z rfl | omega | (simp (disch := omega) only [not_true_eq_false, not_false_eq_true, br_u_s, br_u_n, br_u_q, nI_eq, nI_clamp, nI_add, pk_mul, br_R17, br_S17, pk_sub_toInt, br_ltT, br_leT, br_inT, br_nT, br_negT, br_b_0, br_b_1, Int32.toInt_toInt64, pk_lT, br_lnegT, g1] <;> omega)); done)))
          | (refine rs_noTest_F ?_ ?_; (focus ((first | rfl | assumption | exact fun z => z rfl | omega | (simp (disch := omega) only [not_true_eq_false, not_false_eq_true, br_u_s, br_u_n, br_u_q, nI_eq, nI_clamp, nI_add, pk_mul, br_R17, br_S17, pk_sub_toInt, br_ltT, br_leT, br_inT, br_nT, br_negT, br_b_0, br_b_1, Int32.toInt_toInt64, pk_lT, br_lnegT, g1] <;> omega)); done)))
          | (refine rs_noTest_T ?_ ?_; (focus ((first | rfl | assumption | exact fun z => z rfl | omega | (simp (disch := omega) only [not_true_eq_false, not_false_eq_true, br_u_s, br_u_n, br_u_q, nI_eq, nI_clamp, nI_add, pk_mul, br_R17, br_S17, pk_sub_toInt, br_ltT, br_leT, br_inT, br_nT, br_negT, br_b_0, br_b_1, Int32.toInt_toInt64, pk_lT, br_lnegT, g1] <;> omega)); done)))
          | (refine rs_refuse ?_ ?_; (focus ((first | rfl | assumption | exact fun z => z rfl | omega | (simp (disch := omega) only [not_true_eq_false, not_false_eq_true, br_u_s, br_u_n, br_u_q, nI_eq, nI_clamp, nI_add, pk_mul, br_R17, br_S17, pk_sub_toInt, br_ltT, br_leT, br_inT, br_nT, br_negT, br_b_0, br_b_1, Int32.toInt_toInt64, pk_lT, br_lnegT, g1] <;> omega)); done)))
          | (refine And.intro ?_ ?_; (focus ((first | rfl | assumption | exact fun z => z rfl | omega | (simp (disch := omega) only [not_true_eq_false, not_false_eq_true, br_u_s, br_u_n, br_u_q, nI_eq, nI_clamp, nI_add, pk_mul, br_R17, br_S17, pk_sub_toInt, br_ltT, br_leT, br_inT, br_nT, br_negT, br_b_0, br_b_1, Int32.toInt_toInt64, pk_lT, br_lnegT, g1] <;> omega)); done))))
      · repeat (first
          | exact H
          | (refine br_t ?_ ?_; (focus ((first | rfl | assumption | exact fun z => z rfl | omega | (simp (disch := omega) only [not_true_eq_false, not_false_eq_true, br_u_s, br_u_n, br_u_q, nI_eq, nI_clamp, nI_add, pk_mul, br_R17, br_S17, pk_sub_toInt, br_ltT, br_leT, br_inT, br_nT, br_negT, br_b_0, br_b_1, Int32.toInt_toInt64, pk_lT, br_lnegT, g2] <;> omega)); done)))
          | (refine br_f ?_ ?_; (focus ((first | rfl | assumption | exact fun z => z rfl | omega | (simp (disch := omega) only [not_true_eq_false, not_false_eq_true, br_u_s, br_u_n, br_u_q, nI_eq, nI_clamp, nI_add, pk_mul, br_R17, br_S17, pk_sub_toInt, br_ltT, br_leT, br_inT, br_nT, br_negT, br_b_0, br_b_1, Int32.toInt_toInt64, pk_lT, br_lnegT, g2] <;> omega)); done)))
          | refine rb_M_restore_0 ?_
          | refine rb_M_restore_12 ?_
          | refine rb_M_restore_21 ?_
          | refine rb_M_restore_37 ?_
          | (refine rs_wi_T ?_ ?_; (focus ((first | rfl | assumption | exact fun z => z rfl | omega | (simp (disch := omega) only [not_true_eq_false, not_false_eq_true, br_u_s, br_u_n, br_u_q, nI_eq, nI_clamp, nI_add, pk_mul, br_R17, br_S17, pk_sub_toInt, br_ltT, br_leT, br_inT, br_nT, br_negT, br_b_0, br_b_1, Int32.toInt_toInt64, pk_lT, br_lnegT, g2] <;> omega)); done)))
          | (refine rs_wi_F ?_ ?_; (focus ((first | rfl | assumption | exact fun z => z rfl | omega | (simp (disch := omega) only [not_true_eq_false, not_false_eq_true, br_u_s, br_u_n, br_u_q, nI_eq, nI_clamp, nI_add, pk_mul, br_R17, br_S17, pk_sub_toInt, br_ltT, br_leT, br_inT, br_nT, br_negT, br_b_0, br_b_1, Int32.toInt_toInt64, pk_lT, br_lnegT, g2] <;> omega)); done)))
          | (refine rs_isChild_T (N := N) ?_ ?_ ?_ ?_; (focus ((first | rfl | assumption | exact fun z => z rfl | omega | (simp (disch := omega) only [not_true_eq_false, not_false_eq_true, br_u_s, br_u_n, br_u_q, nI_eq, nI_clamp, nI_add, pk_mul, br_R17, br_S17, pk_sub_toInt, br_ltT, br_leT, br_inT, br_nT, br_negT, br_b_0, br_b_1, Int32.toInt_toInt64, pk_lT, br_lnegT, g2] <;> omega)); done)); (focus ((first | rfl | assumption | exact fun z => z rfl | omega | (simp (disch := omega) only [not_true_eq_false, not_false_eq_true, br_u_s, br_u_n, br_u_q, nI_eq, nI_clamp, nI_add, pk_mul, br_R17, br_S17, pk_sub_toInt, br_ltT, br_leT, br_inT, br_nT, br_negT, br_b_0, br_b_1, Int32.toInt_toInt64, pk_lT, br_lnegT, g2] <;> omega)); done)); (focus ((first | rfl | assumption | exact fun z => z rfl | omega | (simp (disch := omega) only [not_true_eq_false, not_false_eq_true, br_u_s, br_u_n, br_u_q, nI_eq, nI_clamp, nI_add, pk_mul, br_R17, br_S17, pk_sub_toInt, br_ltT, br_leT, br_inT, br_nT, br_negT, br_b_0, br_b_1, Int32.toInt_toInt64, pk_lT, br_lnegT, g2] <;> omega)); done)))
          | (refine rs_isChild_F (N := N) ?_ ?_ ?_ ?_; (focus ((first | rfl | assumption | exact fun z => z rfl | omega | (simp (disch := omega) only [not_true_eq_false, not_false_eq_true, br_u_s, br_u_n, br_u_q, nI_eq, nI_clamp, nI_add, pk_mul, br_R17, br_S17, pk_sub_toInt, br_ltT, br_leT, br_inT, br_nT, br_negT, br_b_0, br_b_1, Int32.toInt_toInt64, pk_lT, br_lnegT, g2] <;> omega)); done)); (focus ((first | rfl | assumption | exact fun z => z rfl | omega | (simp (disch := omega) only [not_true_eq_false, not_false_eq_true, br_u_s, br_u_n, br_u_q, nI_eq, nI_clamp, nI_add, pk_mul, br_R17, br_S17, pk_sub_toInt, br_ltT, br_leT, br_inT, br_nT, br_negT, br_b_0, br_b_1, Int32.toInt_toInt64, pk_lT, br_lnegT, g2] <;> omega)); done)); (focus ((first | rfl | assumption | exact fun z => z rfl | omega | (simp (disch := omega) only [not_true_eq_false, not_false_eq_true, br_u_s, br_u_n, br_u_q, nI_eq, nI_clamp, nI_add, pk_mul, br_R17, br_S17, pk_sub_toInt, br_ltT, br_leT, br_inT, br_nT, br_negT, br_b_0, br_b_1, Int32.toInt_toInt64, pk_lT, br_lnegT, g2] <;> omega)); done)))
          | (refine rs_isTest_T ?_ ?_; (focus ((first | rfl | assumption | exact fun z => z rfl | omega | (simp (disch := omega) only [not_true_eq_false, not_false_eq_true, br_u_s, br_u_n, br_u_q, nI_eq, nI_clamp, nI_add, pk_mul, br_R17, br_S17, pk_sub_toInt, br_ltT, br_leT, br_inT, br_nT, br_negT, br_b_0, br_b_1, Int32.toInt_toInt64, pk_lT, br_lnegT, g2] <;> omega)); done)))
          | (refine rs_isTest_F ?_ ?_; (focus ((first | rfl | assumption | exact fun z => z rfl | omega | (simp (disch := omega) only [not_true_eq_false, not_false_eq_true, br_u_s, br_u_n, br_u_q, nI_eq, nI_clamp, nI_add, pk_mul, br_R17, br_S17, pk_sub_toInt, br_ltT, br_leT, br_inT, br_nT, br_negT, br_b_0, br_b_1, Int32.toInt_toInt64, pk_lT, br_lnegT, g2] <;> omega)); done)))
          | (refine rs_no ?_ ?_; (focus ((first | rfl | assumption | exact fun z => z rfl | omega | (simp (disch := omega) only [not_true_eq_false, not_false_eq_true, br_u_s, br_u_n, br_u_q, nI_eq, nI_clamp, nI_add, pk_mul, br_R17, br_S17, pk_sub_toInt, br_ltT, br_leT, br_inT, br_nT, br_negT, br_b_0, br_b_1, Int32.toInt_toInt64, pk_lT, br_lnegT, g2] <;> omega)); done)))
          | (refine rs_pointOf ?_ ?_ ?_; (focus ((first | rfl | assumption | exact fun z => z rfl | omega | (simp (disch := omega) only [not_true_eq_false, not_false_eq_true, br_u_s, br_u_n, br_u_q, nI_eq, nI_clamp, nI_add, pk_mul, br_R17, br_S17, pk_sub_toInt, br_ltT, br_leT, br_inT, br_nT, br_negT, br_b_0, br_b_1, Int32.toInt_toInt64, pk_lT, br_lnegT, g2] <;> omega)); done)); (focus ((first | rfl | assumption | exact fun z => z rfl | omega | (simp (disch := omega) only [not_true_eq_false, not_false_eq_true, br_u_s, br_u_n, br_u_q, nI_eq, nI_clamp, nI_add, pk_mul, br_R17, br_S17, pk_sub_toInt, br_ltT, br_leT, br_inT, br_nT, br_negT, br_b_0, br_b_1, Int32.toInt_toInt64, pk_lT, br_lnegT, g2] <;> omega)); done)))
          | (refine And.intro ?_ ?_; (focus ((first | rfl | assumption | exact fun z => z rfl | omega | (simp (disch := omega) only [not_true_eq_false, not_false_eq_true, br_u_s, br_u_n, br_u_q, nI_eq, nI_clamp, nI_add, pk_mul, br_R17, br_S17, pk_sub_toInt, br_ltT, br_leT, br_inT, br_nT, br_negT, br_b_0, br_b_1, Int32.toInt_toInt64, pk_lT, br_lnegT, g2] <;> omega)); done))))
    · intro d Q K
      refine rb_A_restore_0 (rs_out_F ?_ (rb_A_restore_6 (br_t rfl ?_)))
      · rw [nI_toInt (show 0 < 2 ^ 31 by omega), nI_toInt (show 1 < 2 ^ 31 by omega)]; exact h1
      rw [nI_clamp (by omega), e52, g1]
      refine ⟨vp_in_nI hi2 (by omega), br_t br_10 ⟨vp_in_nI hi2 (by omega), rs_copyFrom hi2 g3 (fun J h2 h3 => rb_A_restore_43 ?_)⟩⟩
      refine K (nI 0) _ _ (fun j => by rw [h2 1 j (by omega)]) (fun d' Q' k' => ?_)
      generalize hM : br_u J 169 0 (nI 0) = M
      have m171 : M 171 = I 171 := by
        rw [← hM, br_u_q (by omega)]; funext j; exact h2 171 j (by omega)
      have loop : ∀ k t, t + k = 1389 → br_r (d' + 80) 296 40 [some (.ref 169), some (.int (nI i)), some (.int (nI t))] [] (br_hp n (br_row M 171 0 (fun k => I 171 (1389 * (i + 1) + k)) t) L) Q' := by
        intro k
        induction k with
        | zero =>
          intro t ht
          have : t = 1389 := by omega
          subst this
          refine rb_M_restore_40 (br_t (nI_le (Nat.le_refl 1389) (by omega)) (k' _ _ ?_))
          have rd : ∀ p j, ¬ (p = 169 ∧ j = 0) → ¬ (p = 171 ∧ j < 1389) → br_row M 171 0 (fun k => I 171 (1389 * (i + 1) + k)) 1389 p j = J p j := by
            intro p j q3 q4
            rw [br_row_n (by omega), ← hM, br_u_n (by omega)]
          refine br_Inv_w hI (br_W_al (w := 83 + 43 * i) (o := 1389 * (i + 1)) g3 (fun q j hq => ?_) (fun k hk => ?_)) (fun p j hp => ?_)
          · have hq42 : q ≤ 42 := by unfold br_al br_alB at hq; rw [decide_eq_true_eq] at hq; omega
            rw [rd _ _ (by omega) (by omega)]
            exact h3 q j hq
          · exact br_row_i hk
          · unfold br_kO at hp
            rw [rd p j (by omega) (by omega), h2 p j (by omega)]
        | succ k ih =>
          intro t ht
          have h5 := ih (t + 1) (by omega)
          rw [br_row_s, Nat.zero_add] at h5
          refine rb_M_restore_40 (br_f (nI_ge (b := 1389) (by omega) (by omega)) ?_)
          rw [nI_add, pk_mul, nI_add, nI_clamp (by omega), nI_clamp (by omega), nI_add, br_row_n (by omega), m171]
          exact ⟨vp_in_nI (by omega) (by omega), vp_in_nI (by omega) (by omega), h5⟩
      have l0 := loop 1389 0 (by omega)
      rw [br_row_0, ← hM] at l0
      refine rb_M_restore_0 (rs_wi_T ?_ (rb_M_restore_12 (br_t br_10 ?_)))
      · rw [pk_lT (by omega), pk_lT (by omega), Int32.toInt_toInt64]; exact h1
      rw [nI_clamp (by omega), br_u_n (by omega), h2 172 i (by omega), g2]
      exact ⟨vp_in_nI hi2 (by omega), br_t br_10 l0⟩
  · refine br_pair_no hI (k := 2) (by omega) (v := -(nI 2)) (fun d Q H => ?_) (fun d Q H => ?_)
    · repeat (first
        | exact H
        | (refine br_t ?_ ?_; (focus ((first | rfl | assumption | exact fun z => z rfl | omega | (simp (disch := omega) only [not_true_eq_false, not_false_eq_true, br_u_s, br_u_n, br_u_q, nI_eq, nI_clamp, nI_add, pk_mul, br_R17, br_S17, pk_sub_toInt, br_ltT, br_leT, br_inT, br_nT, br_negT, br_b_0, br_b_1, Int32.toInt_toInt64, pk_lT, br_lnegT] <;> omega)); done)))
        | (refine br_f ?_ ?_; (focus ((first | rfl | assumption | exact fun z => z rfl | omega | (simp (disch := omega) only [not_true_eq_false, not_false_eq_true, br_u_s, br_u_n, br_u_q, nI_eq, nI_clamp, nI_add, pk_mul, br_R17, br_S17, pk_sub_toInt, br_ltT, br_leT, br_inT, br_nT, br_negT, br_b_0, br_b_1, Int32.toInt_toInt64, pk_lT, br_lnegT] <;> omega)); done)))
        | refine rb_A_restore_0 ?_
        | refine rb_A_restore_6 ?_
        | refine rb_A_restore_14 ?_
        | refine rb_A_restore_29 ?_
        | refine rb_A_restore_43 ?_
        | (refine rs_out_F ?_ ?_; (focus ((first | rfl | assumption | exact fun z => z rfl | omega | (simp (disch := omega) only [not_true_eq_false, not_false_eq_true, br_u_s, br_u_n, br_u_q, nI_eq, nI_clamp, nI_add, pk_mul, br_R17, br_S17, pk_sub_toInt, br_ltT, br_leT, br_inT, br_nT, br_negT, br_b_0, br_b_1, Int32.toInt_toInt64, pk_lT, br_lnegT] <;> omega)); done)))
        | (refine rs_out_T ?_ ?_; (focus ((first | rfl | assumption | exact fun z => z rfl | omega | (simp (disch := omega) only [not_true_eq_false, not_false_eq_true, br_u_s, br_u_n, br_u_q, nI_eq, nI_clamp, nI_add, pk_mul, br_R17, br_S17, pk_sub_toInt, br_ltT, br_leT, br_inT, br_nT, br_negT, br_b_0, br_b_1, Int32.toInt_toInt64, pk_lT, br_lnegT] <;> omega)); done)))
        | (refine rs_noChild_F (N := N) ?_ ?_ ?_ ?_; (focus ((first | rfl | assumption | exact fun z => z rfl | omega | (simp (disch := omega) only [not_true_eq_false, not_false_eq_true, br_u_s, br_u_n, br_u_q, nI_eq, nI_clamp, nI_add, pk_mul, br_R17, br_S17, pk_sub_toInt, br_ltT, br_leT, br_inT, br_nT, br_negT, br_b_0, br_b_1, Int32.toInt_toInt64, pk_lT, br_lnegT] <;> omega)); done)); (focus ((first | rfl | assumption | exact fun z => z rfl | omega | (simp (disch := omega) only [not_true_eq_false, not_false_eq_true, br_u_s, br_u_n, br_u_q, nI_eq, nI_clamp, nI_add, pk_mul, br_R17, br_S17, pk_sub_toInt, br_ltT, br_leT, br_inT, br_nT, br_negT, br_b_0, br_b_1, Int32.toInt_toInt64, pk_lT, br_lnegT] <;> omega)); done)); (focus ((first | rfl | assumption | exact fun z => z rfl | omega | (simp (disch := omega) only [not_true_eq_false, not_false_eq_true, br_u_s, br_u_n, br_u_q, nI_eq, nI_clamp, nI_add, pk_mul, br_R17, br_S17, pk_sub_toInt, br_ltT, br_leT, br_inT, br_nT, br_negT, br_b_0, br_b_1, Int32.toInt_toInt64, pk_lT, br_lnegT] <;> omega)); done)))
        | (refine rs_noChild_T (N := N) ?_ ?_ ?_ ?_; (focus ((first | rfl | assumption | exact fun z => z rfl | omega | (simp (disch := omega) only [not_true_eq_false, not_false_eq_true, br_u_s, br_u_n, br_u_q, nI_eq, nI_clamp, nI_add, pk_mul, br_R17, br_S17, pk_sub_toInt, br_ltT, br_leT, br_inT, br_nT, br_negT, br_b_0, br_b_1, Int32.toInt_toInt64, pk_lT, br_lnegT] <;> omega)); done)); (focus ((first | rfl | assumption | exact fun z => z rfl | omega | (simp (disch := omega) only [not_true_eq_false, not_false_eq_true, br_u_s, br_u_n, br_u_q, nI_eq, nI_clamp, nI_add, pk_mul, br_R17, br_S17, pk_sub_toInt, br_ltT, br_leT, br_inT, br_nT, br_negT, br_b_0, br_b_1, Int32.toInt_toInt64, pk_lT, br_lnegT] <;> omega)); done)); (focus ((first | rfl | assumption | exact fun z => z rfl | omega | (simp (disch := omega) only [not_true_eq_false, not_false_eq_true, br_u_s, br_u_n, br_u_q, nI_eq, nI_clamp, nI_add, pk_mul, br_R17, br_S17, pk_sub_toInt, br_ltT, br_leT, br_inT, br_nT, br_negT, br_b_0, br_b_1, Int32.toInt_toInt64, pk_lT, br_lnegT] <;> omega)); done)))
        | (refine rs_noTest_F ?_ ?_; (focus ((first | rfl | assumption | exact fun z => z rfl | omega | (simp (disch := omega) only [not_true_eq_false, not_false_eq_true, br_u_s, br_u_n, br_u_q, nI_eq, nI_clamp, nI_add, pk_mul, br_R17, br_S17, pk_sub_toInt, br_ltT, br_leT, br_inT, br_nT, br_negT, br_b_0, br_b_1, Int32.toInt_toInt64, pk_lT, br_lnegT] <;> omega)); done)))
        | (refine rs_noTest_T ?_ ?_; (focus ((first | rfl | assumption | exact fun z => z rfl | omega | (simp (disch := omega) only [not_true_eq_false, not_false_eq_true, br_u_s, br_u_n, br_u_q, nI_eq, nI_clamp, nI_add, pk_mul, br_R17, br_S17, pk_sub_toInt, br_ltT, br_leT, br_inT, br_nT, br_negT, br_b_0, br_b_1, Int32.toInt_toInt64, pk_lT, br_lnegT] <;> omega)); done)))
        | (refine rs_refuse ?_ ?_; (focus ((first | rfl | assumption | exact fun z => z rfl | omega | (simp (disch := omega) only [not_true_eq_false, not_false_eq_true, br_u_s, br_u_n, br_u_q, nI_eq, nI_clamp, nI_add, pk_mul, br_R17, br_S17, pk_sub_toInt, br_ltT, br_leT, br_inT, br_nT, br_negT, br_b_0, br_b_1, Int32.toInt_toInt64, pk_lT, br_lnegT] <;> omega)); done)))
        | (refine And.intro ?_ ?_; (focus ((first | rfl | assumption | exact fun z => z rfl | omega | (simp (disch := omega) only [not_true_eq_false, not_false_eq_true, br_u_s, br_u_n, br_u_q, nI_eq, nI_clamp, nI_add, pk_mul, br_R17, br_S17, pk_sub_toInt, br_ltT, br_leT, br_inT, br_nT, br_negT, br_b_0, br_b_1, Int32.toInt_toInt64, pk_lT, br_lnegT] <;> omega)); done))))
    · repeat (first
        | exact H
        | (refine br_t ?_ ?_; (focus ((first | rfl | assumption | exact fun z => z rfl | omega | (simp (disch := omega) only [not_true_eq_false, not_false_eq_true, br_u_s, br_u_n, br_u_q, nI_eq, nI_clamp, nI_add, pk_mul, br_R17, br_S17, pk_sub_toInt, br_ltT, br_leT, br_inT, br_nT, br_negT, br_b_0, br_b_1, Int32.toInt_toInt64, pk_lT, br_lnegT] <;> omega)); done)))
        | (refine br_f ?_ ?_; (focus ((first | rfl | assumption | exact fun z => z rfl | omega | (simp (disch := omega) only [not_true_eq_false, not_false_eq_true, br_u_s, br_u_n, br_u_q, nI_eq, nI_clamp, nI_add, pk_mul, br_R17, br_S17, pk_sub_toInt, br_ltT, br_leT, br_inT, br_nT, br_negT, br_b_0, br_b_1, Int32.toInt_toInt64, pk_lT, br_lnegT] <;> omega)); done)))
        | refine rb_M_restore_0 ?_
        | refine rb_M_restore_12 ?_
        | refine rb_M_restore_21 ?_
        | refine rb_M_restore_37 ?_
        | (refine rs_wi_T ?_ ?_; (focus ((first | rfl | assumption | exact fun z => z rfl | omega | (simp (disch := omega) only [not_true_eq_false, not_false_eq_true, br_u_s, br_u_n, br_u_q, nI_eq, nI_clamp, nI_add, pk_mul, br_R17, br_S17, pk_sub_toInt, br_ltT, br_leT, br_inT, br_nT, br_negT, br_b_0, br_b_1, Int32.toInt_toInt64, pk_lT, br_lnegT] <;> omega)); done)))
        | (refine rs_wi_F ?_ ?_; (focus ((first | rfl | assumption | exact fun z => z rfl | omega | (simp (disch := omega) only [not_true_eq_false, not_false_eq_true, br_u_s, br_u_n, br_u_q, nI_eq, nI_clamp, nI_add, pk_mul, br_R17, br_S17, pk_sub_toInt, br_ltT, br_leT, br_inT, br_nT, br_negT, br_b_0, br_b_1, Int32.toInt_toInt64, pk_lT, br_lnegT] <;> omega)); done)))
        | (refine rs_isChild_T (N := N) ?_ ?_ ?_ ?_; (focus ((first | rfl | assumption | exact fun z => z rfl | omega | (simp (disch := omega) only [not_true_eq_false, not_false_eq_true, br_u_s, br_u_n, br_u_q, nI_eq, nI_clamp, nI_add, pk_mul, br_R17, br_S17, pk_sub_toInt, br_ltT, br_leT, br_inT, br_nT, br_negT, br_b_0, br_b_1, Int32.toInt_toInt64, pk_lT, br_lnegT] <;> omega)); done)); (focus ((first | rfl | assumption | exact fun z => z rfl | omega | (simp (disch := omega) only [not_true_eq_false, not_false_eq_true, br_u_s, br_u_n, br_u_q, nI_eq, nI_clamp, nI_add, pk_mul, br_R17, br_S17, pk_sub_toInt, br_ltT, br_leT, br_inT, br_nT, br_negT, br_b_0, br_b_1, Int32.toInt_toInt64, pk_lT, br_lnegT] <;> omega)); done)); (focus ((first | rfl | assumption | exact fun z => z rfl | omega | (simp (disch := omega) only [not_true_eq_false, not_false_eq_true, br_u_s, br_u_n, br_u_q, nI_eq, nI_clamp, nI_add, pk_mul, br_R17, br_S17, pk_sub_toInt, br_ltT, br_leT, br_inT, br_nT, br_negT, br_b_0, br_b_1, Int32.toInt_toInt64, pk_lT, br_lnegT] <;> omega)); done)))
        | (refine rs_isChild_F (N := N) ?_ ?_ ?_ ?_; (focus ((first | rfl | assumption | exact fun z => z rfl | omega | (simp (disch := omega) only [not_true_eq_false, not_false_eq_true, br_u_s, br_u_n, br_u_q, nI_eq, nI_clamp, nI_add, pk_mul, br_R17, br_S17, pk_sub_toInt, br_ltT, br_leT, br_inT, br_nT, br_negT, br_b_0, br_b_1, Int32.toInt_toInt64, pk_lT, br_lnegT] <;> omega)); done)); (focus ((first | rfl | assumption | exact fun z => z rfl | omega | (simp (disch := omega) only [not_true_eq_false, not_false_eq_true, br_u_s, br_u_n, br_u_q, nI_eq, nI_clamp, nI_add, pk_mul, br_R17, br_S17, pk_sub_toInt, br_ltT, br_leT, br_inT, br_nT, br_negT, br_b_0, br_b_1, Int32.toInt_toInt64, pk_lT, br_lnegT] <;> omega)); done)); (focus ((first | rfl | assumption | exact fun z => z rfl | omega | (simp (disch := omega) only [not_true_eq_false, not_false_eq_true, br_u_s, br_u_n, br_u_q, nI_eq, nI_clamp, nI_add, pk_mul, br_R17, br_S17, pk_sub_toInt, br_ltT, br_leT, br_inT, br_nT, br_negT, br_b_0, br_b_1, Int32.toInt_toInt64, pk_lT, br_lnegT] <;> omega)); done)))
        | (refine rs_isTest_T ?_ ?_; (focus ((first | rfl | assumption | exact fun z => z rfl | omega | (simp (disch := omega) only [not_true_eq_false, not_false_eq_true, br_u_s, br_u_n, br_u_q, nI_eq, nI_clamp, nI_add, pk_mul, br_R17, br_S17, pk_sub_toInt, br_ltT, br_leT, br_inT, br_nT, br_negT, br_b_0, br_b_1, Int32.toInt_toInt64, pk_lT, br_lnegT] <;> omega)); done)))
        | (refine rs_isTest_F ?_ ?_; (focus ((first | rfl | assumption | exact fun z => z rfl | omega | (simp (disch := omega) only [not_true_eq_false, not_false_eq_true, br_u_s, br_u_n, br_u_q, nI_eq, nI_clamp, nI_add, pk_mul, br_R17, br_S17, pk_sub_toInt, br_ltT, br_leT, br_inT, br_nT, br_negT, br_b_0, br_b_1, Int32.toInt_toInt64, pk_lT, br_lnegT] <;> omega)); done)))
        | (refine rs_no ?_ ?_; (focus ((first | rfl | assumption | exact fun z => z rfl | omega | (simp (disch := omega) only [not_true_eq_false, not_false_eq_true, br_u_s, br_u_n, br_u_q, nI_eq, nI_clamp, nI_add, pk_mul, br_R17, br_S17, pk_sub_toInt, br_ltT, br_leT, br_inT, br_nT, br_negT, br_b_0, br_b_1, Int32.toInt_toInt64, pk_lT, br_lnegT] <;> omega)); done)))
        | (refine rs_pointOf ?_ ?_ ?_; (focus ((first | rfl | assumption | exact fun z => z rfl | omega | (simp (disch := omega) only [not_true_eq_false, not_false_eq_true, br_u_s, br_u_n, br_u_q, nI_eq, nI_clamp, nI_add, pk_mul, br_R17, br_S17, pk_sub_toInt, br_ltT, br_leT, br_inT, br_nT, br_negT, br_b_0, br_b_1, Int32.toInt_toInt64, pk_lT, br_lnegT] <;> omega)); done)); (focus ((first | rfl | assumption | exact fun z => z rfl | omega | (simp (disch := omega) only [not_true_eq_false, not_false_eq_true, br_u_s, br_u_n, br_u_q, nI_eq, nI_clamp, nI_add, pk_mul, br_R17, br_S17, pk_sub_toInt, br_ltT, br_leT, br_inT, br_nT, br_negT, br_b_0, br_b_1, Int32.toInt_toInt64, pk_lT, br_lnegT] <;> omega)); done)))
        | (refine And.intro ?_ ?_; (focus ((first | rfl | assumption | exact fun z => z rfl | omega | (simp (disch := omega) only [not_true_eq_false, not_false_eq_true, br_u_s, br_u_n, br_u_q, nI_eq, nI_clamp, nI_add, pk_mul, br_R17, br_S17, pk_sub_toInt, br_ltT, br_leT, br_inT, br_nT, br_negT, br_b_0, br_b_1, Int32.toInt_toInt64, pk_lT, br_lnegT] <;> omega)); done))))
/-- the rows of a kept law are the rows of the law in force -/
def br_kpB (i : Nat) (r : br_Rw) : Bool :=
  if r.1 = 35 + 2 * i ∨ r.1 = 36 + 2 * i then decide ((16 + (r.1 - (35 + 2 * i)), r.2.1, r.2.2.1, r.2.2.2.1 - (20 + 20 * i), r.2.2.2.2.1, r.2.2.2.2.2) ∈ br_rows) && decide (20 + 20 * i ≤ r.2.2.2.1) && decide (r.2.2.2.1 + r.2.2.1 ≤ 40 + 20 * i) && decide (r.1 = 35 + 2 * i → r.2.1 = 1 ∧ r.2.2.1 = 1 ∧ r.2.2.2.1 = 39 + 20 * i) && decide (r.2.1 + r.2.2.1 ≤ 18)
  else decide (r.2.2.2.1 + r.2.2.1 ≤ 20 + 20 * i ∨ 40 + 20 * i ≤ r.2.2.2.1) && decide (r.1 = 19 → r.2.1 = 0 ∧ r.2.2.2.1 = 100 ∧ r.2.2.2.2.1 = 0 ∧ r.2.2.2.2.2 = 1) && decide (r.1 ≠ 19 → r.2.2.2.1 + r.2.2.1 ≤ 100 ∨ 104 ≤ r.2.2.2.1)
theorem br_kp : ∀ i, i < 4 → br_rows.all (br_kpB i) = true := by decide +kernel
theorem br_kpT {i : Nat} (hi : i < 4) {r : br_Rw} (hr : r ∈ br_rows) (h : r.1 = 35 + 2 * i ∨ r.1 = 36 + 2 * i) : (16 + (r.1 - (35 + 2 * i)), r.2.1, r.2.2.1, r.2.2.2.1 - (20 + 20 * i), r.2.2.2.2.1, r.2.2.2.2.2) ∈ br_rows ∧ 20 + 20 * i ≤ r.2.2.2.1 ∧ r.2.2.2.1 + r.2.2.1 ≤ 40 + 20 * i ∧ (r.1 = 35 + 2 * i → r.2.1 = 1 ∧ r.2.2.1 = 1 ∧ r.2.2.2.1 = 39 + 20 * i) ∧ r.2.1 + r.2.2.1 ≤ 18 := by
  have h1 := List.all_eq_true.mp (br_kp i hi) r hr
  unfold br_kpB at h1
  rw [if_pos h] at h1
  simp only [Bool.and_eq_true] at h1
  obtain ⟨⟨⟨⟨h2, h3⟩, h4⟩, h5⟩, h6⟩ := h1
  exact ⟨of_decide_eq_true h2, of_decide_eq_true h3, of_decide_eq_true h4, of_decide_eq_true h5, of_decide_eq_true h6⟩
theorem br_kpF {i : Nat} (hi : i < 4) {r : br_Rw} (hr : r ∈ br_rows) (h : ¬ (r.1 = 35 + 2 * i ∨ r.1 = 36 + 2 * i)) : (r.2.2.2.1 + r.2.2.1 ≤ 20 + 20 * i ∨ 40 + 20 * i ≤ r.2.2.2.1) ∧ (r.1 = 19 → r.2.1 = 0 ∧ r.2.2.2.1 = 100 ∧ r.2.2.2.2.1 = 0 ∧ r.2.2.2.2.2 = 1) ∧ (r.1 ≠ 19 → r.2.2.2.1 + r.2.2.1 ≤ 100 ∨ 104 ≤ r.2.2.2.1) := by
  have h1 := List.all_eq_true.mp (br_kp i hi) r hr
  unfold br_kpB at h1
  rw [if_neg h] at h1
  simp only [Bool.and_eq_true] at h1
  obtain ⟨⟨h2, h3⟩, h4⟩ := h1
  exact ⟨of_decide_eq_true h2, of_decide_eq_true h3, of_decide_eq_true h4⟩
theorem bp_keep (hI : br_Inv xs I L) (x1 : Int32) : br_pair n xs 167 283 [some (.ref 8), some (.int x1)] [some (.ref 169), some (.int x1), none] I L := by
  by_cases h1 : 0 ≤ x1.toInt ∧ x1.toInt ≤ 3
  · obtain ⟨i, ei, hi⟩ := br_nN h1.1
    subst ei
    have hi4 : i < 4 := by omega
    obtain ⟨lA, rA⟩ := (br_lwW (n := n) (w := 9) (Or.inl rfl)).2 i hi4
    have rA' : br_R0 27 i = 9 + (35 + 2 * i) := rA
    have lB := br_lwK (n := n)
    have hlr := br_lrI hI
    refine br_pc ⟨nI 0, br_u (br_u (br_cp I 26 (9 + (35 + 2 * i) + 1) 0 0 18) (9 + (35 + 2 * i)) 1 (I 171 19)) 28 i (nI 1), L, br_u (br_row (br_u (br_u (br_u (br_cp I 26 (9 + (35 + 2 * i) + 1) 0 0 18) (9 + (35 + 2 * i)) 1 (I 171 19)) 28 i (nI 1)) 169 0 (nI 0)) 171 (20 + 20 * i) (I 171) 20) 171 (100 + i) (nI 1), L, fun d Q H => ?_, fun d Q H => ?_, fun j => ?_, br_Inv_w hI ⟨?_, ?_, ?_⟩ ?_⟩
    · refine rb_A_keep_0 (rs_out_F ?_ (rb_A_keep_6 (br_t rfl ?_)))
      · rw [nI_toInt (show 0 < 2 ^ 31 by omega), nI_toInt (show 3 < 2 ^ 31 by omega)]; exact h1
      rw [nI_clamp (by omega), rA']
      refine ⟨vp_in_nI hi4 (by omega), lA.1, rs_Law_copy lA lB (rb_A_keep_34 ?_)⟩
      rw [nI_clamp (by omega)]
      have e : br_cp I (25 + 1) (9 + (35 + 2 * i) + 1) 0 0 18 25 1 = I 171 19 := by
        have e2 : br_cp I (25 + 1) (9 + (35 + 2 * i) + 1) 0 0 18 25 1 = I 25 1 := if_neg (by omega)
        rw [e2]; exact bi_lawlines hI.1.1
      rw [e]
      exact ⟨vp_in_nI hi4 (by omega), H⟩
    · generalize hJ : br_u (br_u (br_u (br_cp I 26 (9 + (35 + 2 * i) + 1) 0 0 18) (9 + (35 + 2 * i)) 1 (I 171 19)) 28 i (nI 1)) 169 0 (nI 0) = J at H
      have jq : ∀ k, J 171 k = I 171 k := fun k => by
        rw [← hJ, br_u_n (by omega), br_u_n (by omega), br_u_n (by omega)]
        exact if_neg (by omega)
      have loop : ∀ k t, t + k = 20 → br_r (d + 80) 283 26 [some (.ref 169), some (.int (nI i)), some (.int (nI t))] [] (br_hp n (br_row J 171 (20 + 20 * i) (I 171) t) L) Q := by
        intro k
        induction k with
        | zero =>
          intro t ht
          have : t = 20 := by omega
          subst this
          refine rb_M_keep_26 (br_t (nI_le (Nat.le_refl 20) (by omega)) ?_)
          rw [nI_add, nI_clamp (by omega)]
          exact ⟨vp_in_nI (by omega) (by omega), H⟩
        | succ k ih =>
          intro t ht
          have h5 := ih (t + 1) (by omega)
          rw [br_row_s] at h5
          refine rb_M_keep_26 (br_f (nI_ge (b := 20) (by omega) (by omega)) ?_)
          rw [pk_mul, nI_add, nI_add, nI_clamp (by omega), nI_clamp (by omega), nI_add, br_row_n (by omega), jq]
          exact ⟨vp_in_nI (by omega) (by omega), vp_in_nI (by omega) (by omega), h5⟩
      have l0 := loop 20 0 (by omega)
      rw [br_row_0, ← hJ] at l0
      refine rb_M_keep_0 (rs_wi_T ?_ (rb_M_keep_14 (br_t br_10 l0)))
      rw [pk_lT (by omega), pk_lT (by omega), Int32.toInt_toInt64]; exact h1
    · rw [br_u_n (by omega), br_u_n (by omega)]
      exact if_neg (by omega)
    · -- the cells: a row of the kept law is one of the law in force
      intro r hr j hj
      have hin := List.all_eq_true.mp br_rows_in r hr
      simp only [Bool.and_eq_true, Bool.or_eq_true, Nat.ble_eq] at hin
      obtain ⟨⟨⟨⟨h42, h1389⟩, _⟩, _⟩, _⟩ := hin
      have h0 := hI.1.1 r hr j hj
      rw [Nat.zero_add] at h0 ⊢
      by_cases hk : r.1 = 35 + 2 * i ∨ r.1 = 36 + 2 * i
      · obtain ⟨k1, k2, k3, k4, k5⟩ := br_kpT hi4 hr hk
        have hl := hI.1.1 _ k1 j hj
        simp only at hl
        rw [Nat.zero_add] at hl
        have eg : br_u (br_row (br_u (br_u (br_u (br_cp I 26 (9 + (35 + 2 * i) + 1) 0 0 18) (9 + (35 + 2 * i)) 1 (I 171 19)) 28 i (nI 1)) 169 0 (nI 0)) 171 (20 + 20 * i) (I 171) 20) 171 (100 + i) (nI 1) 171 (r.2.2.2.1 + j) = I 171 (r.2.2.2.1 - (20 + 20 * i) + j) := by
          rw [br_u_n (by omega), show r.2.2.2.1 + j = 20 + 20 * i + (r.2.2.2.1 - (20 + 20 * i) + j) by omega]
          exact br_row_i (by omega)
        rw [eg]
        refine ⟨?_, hl.2⟩
        rw [← hl.1]
        rw [br_u_n (by omega), br_row_n (by omega), br_u_n (by omega), br_u_n (by omega)]
        rcases hk with hk | hk
        · obtain ⟨k6, k7, k8⟩ := k4 hk
          have ej : j = 0 := by omega
          subst ej
          rw [hk, k6, br_u_s, show 9 + (16 + (35 + 2 * i - (35 + 2 * i))) = 25 by omega]
          exact (bi_lawlines hI.1.1).symm
        · rw [br_u_n (by omega), hk, show 9 + (16 + (36 + 2 * i - (35 + 2 * i))) = 26 by omega]
          have e : br_cp I 26 (9 + (35 + 2 * i) + 1) 0 0 18 (9 + (36 + 2 * i)) (r.2.1 + j) = I 26 (0 + (r.2.1 + j - 0)) := if_pos (by omega)
          rw [e, Nat.zero_add, Nat.sub_zero]
      · obtain ⟨k1, k2, k3⟩ := br_kpF hi4 hr hk
        by_cases e19 : r.1 = 19 ∧ j = i
        · obtain ⟨e1, e2⟩ := e19
          obtain ⟨k4, k5, k6, k7⟩ := k2 e1
          subst e2
          rw [e1, k4, k5, k6, k7, Nat.zero_add, br_u_n (by omega), br_row_n (by omega), br_u_n (by omega), br_u_e (by omega) rfl, br_u_e rfl rfl]
          exact ⟨rfl, by decide +kernel, by decide +kernel⟩
        · have eg : br_u (br_row (br_u (br_u (br_u (br_cp I 26 (9 + (35 + 2 * i) + 1) 0 0 18) (9 + (35 + 2 * i)) 1 (I 171 19)) 28 i (nI 1)) 169 0 (nI 0)) 171 (20 + 20 * i) (I 171) 20) 171 (100 + i) (nI 1) 171 (r.2.2.2.1 + j) = I 171 (r.2.2.2.1 + j) := by
            have n1 : ¬ r.2.2.2.1 + j = 100 + i := by
              intro z
              by_cases e1 : r.1 = 19
              · obtain ⟨k4, k5, k6, k7⟩ := k2 e1
                exact e19 ⟨e1, by omega⟩
              · rcases k3 e1 with k4 | k4 <;> omega
            rw [br_u_n (by omega), br_row_n (by omega), br_u_n (by omega), br_u_n (by omega), br_u_n (by omega)]
            exact if_neg (by omega)
          rw [eg]
          refine ⟨?_, h0.2⟩
          rw [← h0.1]
          have n2 : ¬ (9 + r.1 = 28 ∧ r.2.1 + j = i) := by
            intro z
            have e1 : r.1 = 19 := by omega
            obtain ⟨k4, k5, k6, k7⟩ := k2 e1
            exact e19 ⟨e1, by omega⟩
          rw [br_u_n (by omega), br_row_n (by omega), br_u_n (by omega), br_u_n n2, br_u_n (by omega)]
          exact if_neg (by omega)
    · have q : ∀ k, ¬ (20 ≤ k ∧ k < 104) → br_u (br_row (br_u (br_u (br_u (br_cp I 26 (9 + (35 + 2 * i) + 1) 0 0 18) (9 + (35 + 2 * i)) 1 (I 171 19)) 28 i (nI 1)) 169 0 (nI 0)) 171 (20 + 20 * i) (I 171) 20) 171 (100 + i) (nI 1) 171 k = I 171 k := by
        intro k hk
        rw [br_u_n (by omega), br_row_n (by omega), br_u_n (by omega), br_u_n (by omega), br_u_n (by omega)]
        exact if_neg (by omega)
      obtain ⟨N, R, hN, hR, eN, eR, a3, a4, a5⟩ := hI.1.2.1
      simp only [Nat.zero_add] at eN eR a3 a4 a5
      refine ⟨N, R, hN, hR, ?_, ?_, fun c hc => ?_, fun c h6 h7 => ?_, fun i' hi' => ?_⟩
      · rw [Nat.zero_add, q _ (by omega)]; exact eN
      · rw [Nat.zero_add, q _ (by omega)]; exact eR
      · rw [Nat.zero_add, q _ (by omega)]; exact a3 c hc
      · simp only [Nat.zero_add]
        rw [q _ (by omega), q _ (by omega)]
        refine ⟨(a4 c h6 h7).1, (a4 c h6 h7).2.1, fun t ht => ?_⟩
        rw [q _ (by omega)]; exact (a4 c h6 h7).2.2 t ht
      · rw [Nat.zero_add, br_u_n (by omega)]
        by_cases e : i' = i + 1
        · have e0 := br_row_i (f := br_u (br_u (br_u (br_cp I 26 (9 + (35 + 2 * i) + 1) 0 0 18) (9 + (35 + 2 * i)) 1 (I 171 19)) 28 i (nI 1)) 169 0 (nI 0)) (p := 171) (b := 20 + 20 * i) (F := I 171) (m := 20) (j := 0) (by omega)
          rw [show 20 * i' = 20 + 20 * i + 0 by omega, e0]
          exact a5 0 (by omega)
        · rw [br_row_n (by omega), br_u_n (by omega), br_u_n (by omega), br_u_n (by omega)]
          have e2 : br_cp I 26 (9 + (35 + 2 * i) + 1) 0 0 18 171 (20 * i') = I 171 (20 * i') := if_neg (by omega)
          rw [e2]
          exact a5 i' hi'
    · have q : ∀ p j, (p = 29 ∨ p = 30 ∨ (p = 171 ∧ 104 ≤ j)) → br_u (br_row (br_u (br_u (br_u (br_cp I 26 (9 + (35 + 2 * i) + 1) 0 0 18) (9 + (35 + 2 * i)) 1 (I 171 19)) 28 i (nI 1)) 169 0 (nI 0)) 171 (20 + 20 * i) (I 171) 20) 171 (100 + i) (nI 1) p j = I p j := by
        intro p j hp
        rw [br_u_n (by omega), br_row_n (by omega), br_u_n (by omega), br_u_n (by omega), br_u_n (by omega)]
        exact if_neg (by omega)
      exact br_ru_c hI.1.2.2 (q 29 1 (by omega)) (fun j => q 30 j (by omega)) (fun k h1 h2 => q 171 (0 + k) (by omega))
    · intro p j hp
      unfold br_kO at hp
      rw [br_u_n (by omega), br_row_n (by omega), br_u_n (by omega), br_u_n (by omega), br_u_n (by omega)]
      exact if_neg (by omega)
  · refine br_pair_no hI (k := 2) (by omega) (v := -(nI 2)) (fun d Q H => ?_) (fun d Q H => ?_)
    · repeat (first
        | exact H
        | (refine br_t ?_ ?_; (focus ((first | rfl | assumption | exact fun z => z rfl | omega | (simp (disch := omega) only [not_true_eq_false, not_false_eq_true, br_u_s, br_u_n, br_u_q, nI_eq, nI_clamp, nI_add, pk_mul, br_R17, br_S17, pk_sub_toInt, br_ltT, br_leT, br_inT, br_nT, br_negT, br_b_0, br_b_1, Int32.toInt_toInt64, pk_lT, br_lnegT] <;> omega)); done)))
        | (refine br_f ?_ ?_; (focus ((first | rfl | assumption | exact fun z => z rfl | omega | (simp (disch := omega) only [not_true_eq_false, not_false_eq_true, br_u_s, br_u_n, br_u_q, nI_eq, nI_clamp, nI_add, pk_mul, br_R17, br_S17, pk_sub_toInt, br_ltT, br_leT, br_inT, br_nT, br_negT, br_b_0, br_b_1, Int32.toInt_toInt64, pk_lT, br_lnegT] <;> omega)); done)))
        | refine rb_A_keep_0 ?_
        | refine rb_A_keep_6 ?_
        | refine rb_A_keep_14 ?_
        | refine rb_A_keep_34 ?_
        | (refine rs_out_F ?_ ?_; (focus ((first | rfl | assumption | exact fun z => z rfl | omega | (simp (disch := omega) only [not_true_eq_false, not_false_eq_true, br_u_s, br_u_n, br_u_q, nI_eq, nI_clamp, nI_add, pk_mul, br_R17, br_S17, pk_sub_toInt, br_ltT, br_leT, br_inT, br_nT, br_negT, br_b_0, br_b_1, Int32.toInt_toInt64, pk_lT, br_lnegT] <;> omega)); done)))
        | (refine rs_out_T ?_ ?_; (focus ((first | rfl | assumption | exact fun z => z rfl | omega | (simp (disch := omega) only [not_true_eq_false, not_false_eq_true, br_u_s, br_u_n, br_u_q, nI_eq, nI_clamp, nI_add, pk_mul, br_R17, br_S17, pk_sub_toInt, br_ltT, br_leT, br_inT, br_nT, br_negT, br_b_0, br_b_1, Int32.toInt_toInt64, pk_lT, br_lnegT] <;> omega)); done)))
        | (refine rs_noChild_F (N := N) ?_ ?_ ?_ ?_; (focus ((first | rfl | assumption | exact fun z => z rfl | omega | (simp (disch := omega) only [not_true_eq_false, not_false_eq_true, br_u_s, br_u_n, br_u_q, nI_eq, nI_clamp, nI_add, pk_mul, br_R17, br_S17, pk_sub_toInt, br_ltT, br_leT, br_inT, br_nT, br_negT, br_b_0, br_b_1, Int32.toInt_toInt64, pk_lT, br_lnegT] <;> omega)); done)); (focus ((first | rfl | assumption | exact fun z => z rfl | omega | (simp (disch := omega) only [not_true_eq_false, not_false_eq_true, br_u_s, br_u_n, br_u_q, nI_eq, nI_clamp, nI_add, pk_mul, br_R17, br_S17, pk_sub_toInt, br_ltT, br_leT, br_inT, br_nT, br_negT, br_b_0, br_b_1, Int32.toInt_toInt64, pk_lT, br_lnegT] <;> omega)); done)); (focus ((first | rfl | assumption | exact fun z => z rfl | omega | (simp (disch := omega) only [not_true_eq_false, not_false_eq_true, br_u_s, br_u_n, br_u_q, nI_eq, nI_clamp, nI_add, pk_mul, br_R17, br_S17, pk_sub_toInt, br_ltT, br_leT, br_inT, br_nT, br_negT, br_b_0, br_b_1, Int32.toInt_toInt64, pk_lT, br_lnegT] <;> omega)); done)))
        | (refine rs_noChild_T (N := N) ?_ ?_ ?_ ?_; (focus ((first | rfl | assumption | exact fun z => z rfl | omega | (simp (disch := omega) only [not_true_eq_false, not_false_eq_true, br_u_s, br_u_n, br_u_q, nI_eq, nI_clamp, nI_add, pk_mul, br_R17, br_S17, pk_sub_toInt, br_ltT, br_leT, br_inT, br_nT, br_negT, br_b_0, br_b_1, Int32.toInt_toInt64, pk_lT, br_lnegT] <;> omega)); done)); (focus ((first | rfl | assumption | exact fun z => z rfl | omega | (simp (disch := omega) only [not_true_eq_false, not_false_eq_true, br_u_s, br_u_n, br_u_q, nI_eq, nI_clamp, nI_add, pk_mul, br_R17, br_S17, pk_sub_toInt, br_ltT, br_leT, br_inT, br_nT, br_negT, br_b_0, br_b_1, Int32.toInt_toInt64, pk_lT, br_lnegT] <;> omega)); done)); (focus ((first | rfl | assumption | exact fun z => z rfl | omega | (simp (disch := omega) only [not_true_eq_false, not_false_eq_true, br_u_s, br_u_n, br_u_q, nI_eq, nI_clamp, nI_add, pk_mul, br_R17, br_S17, pk_sub_toInt, br_ltT, br_leT, br_inT, br_nT, br_negT, br_b_0, br_b_1, Int32.toInt_toInt64, pk_lT, br_lnegT] <;> omega)); done)))
        | (refine rs_noTest_F ?_ ?_; (focus ((first | rfl | assumption | exact fun z => z rfl | omega | (simp (disch := omega) only [not_true_eq_false, not_false_eq_true, br_u_s, br_u_n, br_u_q, nI_eq, nI_clamp, nI_add, pk_mul, br_R17, br_S17, pk_sub_toInt, br_ltT, br_leT, br_inT, br_nT, br_negT, br_b_0, br_b_1, Int32.toInt_toInt64, pk_lT, br_lnegT] <;> omega)); done)))
        | (refine rs_noTest_T ?_ ?_; (focus ((first | rfl | assumption | exact fun z => z rfl | omega | (simp (disch := omega) only [not_true_eq_false, not_false_eq_true, br_u_s, br_u_n, br_u_q, nI_eq, nI_clamp, nI_add, pk_mul, br_R17, br_S17, pk_sub_toInt, br_ltT, br_leT, br_inT, br_nT, br_negT, br_b_0, br_b_1, Int32.toInt_toInt64, pk_lT, br_lnegT] <;> omega)); done)))
        | (refine rs_refuse ?_ ?_; (focus ((first | rfl | assumption | exact fun z => z rfl | omega | (simp (disch := omega) only [not_true_eq_false, not_false_eq_true, br_u_s, br_u_n, br_u_q, nI_eq, nI_clamp, nI_add, pk_mul, br_R17, br_S17, pk_sub_toInt, br_ltT, br_leT, br_inT, br_nT, br_negT, br_b_0, br_b_1, Int32.toInt_toInt64, pk_lT, br_lnegT] <;> omega)); done)))
        | (refine And.intro ?_ ?_; (focus ((first | rfl | assumption | exact fun z => z rfl | omega | (simp (disch := omega) only [not_true_eq_false, not_false_eq_true, br_u_s, br_u_n, br_u_q, nI_eq, nI_clamp, nI_add, pk_mul, br_R17, br_S17, pk_sub_toInt, br_ltT, br_leT, br_inT, br_nT, br_negT, br_b_0, br_b_1, Int32.toInt_toInt64, pk_lT, br_lnegT] <;> omega)); done))))
    · repeat (first
        | exact H
        | (refine br_t ?_ ?_; (focus ((first | rfl | assumption | exact fun z => z rfl | omega | (simp (disch := omega) only [not_true_eq_false, not_false_eq_true, br_u_s, br_u_n, br_u_q, nI_eq, nI_clamp, nI_add, pk_mul, br_R17, br_S17, pk_sub_toInt, br_ltT, br_leT, br_inT, br_nT, br_negT, br_b_0, br_b_1, Int32.toInt_toInt64, pk_lT, br_lnegT] <;> omega)); done)))
        | (refine br_f ?_ ?_; (focus ((first | rfl | assumption | exact fun z => z rfl | omega | (simp (disch := omega) only [not_true_eq_false, not_false_eq_true, br_u_s, br_u_n, br_u_q, nI_eq, nI_clamp, nI_add, pk_mul, br_R17, br_S17, pk_sub_toInt, br_ltT, br_leT, br_inT, br_nT, br_negT, br_b_0, br_b_1, Int32.toInt_toInt64, pk_lT, br_lnegT] <;> omega)); done)))
        | refine rb_M_keep_0 ?_
        | refine rb_M_keep_14 ?_
        | refine rb_M_keep_23 ?_
        | (refine rs_wi_T ?_ ?_; (focus ((first | rfl | assumption | exact fun z => z rfl | omega | (simp (disch := omega) only [not_true_eq_false, not_false_eq_true, br_u_s, br_u_n, br_u_q, nI_eq, nI_clamp, nI_add, pk_mul, br_R17, br_S17, pk_sub_toInt, br_ltT, br_leT, br_inT, br_nT, br_negT, br_b_0, br_b_1, Int32.toInt_toInt64, pk_lT, br_lnegT] <;> omega)); done)))
        | (refine rs_wi_F ?_ ?_; (focus ((first | rfl | assumption | exact fun z => z rfl | omega | (simp (disch := omega) only [not_true_eq_false, not_false_eq_true, br_u_s, br_u_n, br_u_q, nI_eq, nI_clamp, nI_add, pk_mul, br_R17, br_S17, pk_sub_toInt, br_ltT, br_leT, br_inT, br_nT, br_negT, br_b_0, br_b_1, Int32.toInt_toInt64, pk_lT, br_lnegT] <;> omega)); done)))
        | (refine rs_isChild_T (N := N) ?_ ?_ ?_ ?_; (focus ((first | rfl | assumption | exact fun z => z rfl | omega | (simp (disch := omega) only [not_true_eq_false, not_false_eq_true, br_u_s, br_u_n, br_u_q, nI_eq, nI_clamp, nI_add, pk_mul, br_R17, br_S17, pk_sub_toInt, br_ltT, br_leT, br_inT, br_nT, br_negT, br_b_0, br_b_1, Int32.toInt_toInt64, pk_lT, br_lnegT] <;> omega)); done)); (focus ((first | rfl | assumption | exact fun z => z rfl | omega | (simp (disch := omega) only [not_true_eq_false, not_false_eq_true, br_u_s, br_u_n, br_u_q, nI_eq, nI_clamp, nI_add, pk_mul, br_R17, br_S17, pk_sub_toInt, br_ltT, br_leT, br_inT, br_nT, br_negT, br_b_0, br_b_1, Int32.toInt_toInt64, pk_lT, br_lnegT] <;> omega)); done)); (focus ((first | rfl | assumption | exact fun z => z rfl | omega | (simp (disch := omega) only [not_true_eq_false, not_false_eq_true, br_u_s, br_u_n, br_u_q, nI_eq, nI_clamp, nI_add, pk_mul, br_R17, br_S17, pk_sub_toInt, br_ltT, br_leT, br_inT, br_nT, br_negT, br_b_0, br_b_1, Int32.toInt_toInt64, pk_lT, br_lnegT] <;> omega)); done)))
        | (refine rs_isChild_F (N := N) ?_ ?_ ?_ ?_; (focus ((first | rfl | assumption | exact fun z => z rfl | omega | (simp (disch := omega) only [not_true_eq_false, not_false_eq_true, br_u_s, br_u_n, br_u_q, nI_eq, nI_clamp, nI_add, pk_mul, br_R17, br_S17, pk_sub_toInt, br_ltT, br_leT, br_inT, br_nT, br_negT, br_b_0, br_b_1, Int32.toInt_toInt64, pk_lT, br_lnegT] <;> omega)); done)); (focus ((first | rfl | assumption | exact fun z => z rfl | omega | (simp (disch := omega) only [not_true_eq_false, not_false_eq_true, br_u_s, br_u_n, br_u_q, nI_eq, nI_clamp, nI_add, pk_mul, br_R17, br_S17, pk_sub_toInt, br_ltT, br_leT, br_inT, br_nT, br_negT, br_b_0, br_b_1, Int32.toInt_toInt64, pk_lT, br_lnegT] <;> omega)); done)); (focus ((first | rfl | assumption | exact fun z => z rfl | omega | (simp (disch := omega) only [not_true_eq_false, not_false_eq_true, br_u_s, br_u_n, br_u_q, nI_eq, nI_clamp, nI_add, pk_mul, br_R17, br_S17, pk_sub_toInt, br_ltT, br_leT, br_inT, br_nT, br_negT, br_b_0, br_b_1, Int32.toInt_toInt64, pk_lT, br_lnegT] <;> omega)); done)))
        | (refine rs_isTest_T ?_ ?_; (focus ((first | rfl | assumption | exact fun z => z rfl | omega | (simp (disch := omega) only [not_true_eq_false, not_false_eq_true, br_u_s, br_u_n, br_u_q, nI_eq, nI_clamp, nI_add, pk_mul, br_R17, br_S17, pk_sub_toInt, br_ltT, br_leT, br_inT, br_nT, br_negT, br_b_0, br_b_1, Int32.toInt_toInt64, pk_lT, br_lnegT] <;> omega)); done)))
        | (refine rs_isTest_F ?_ ?_; (focus ((first | rfl | assumption | exact fun z => z rfl | omega | (simp (disch := omega) only [not_true_eq_false, not_false_eq_true, br_u_s, br_u_n, br_u_q, nI_eq, nI_clamp, nI_add, pk_mul, br_R17, br_S17, pk_sub_toInt, br_ltT, br_leT, br_inT, br_nT, br_negT, br_b_0, br_b_1, Int32.toInt_toInt64, pk_lT, br_lnegT] <;> omega)); done)))
        | (refine rs_no ?_ ?_; (focus ((first | rfl | assumption | exact fun z => z rfl | omega | (simp (disch := omega) only [not_true_eq_false, not_false_eq_true, br_u_s, br_u_n, br_u_q, nI_eq, nI_clamp, nI_add, pk_mul, br_R17, br_S17, pk_sub_toInt, br_ltT, br_leT, br_inT, br_nT, br_negT, br_b_0, br_b_1, Int32.toInt_toInt64, pk_lT, br_lnegT] <;> omega)); done)))
        | (refine rs_pointOf ?_ ?_ ?_; (focus ((first | rfl | assumption | exact fun z => z rfl | omega | (simp (disch := omega) only [not_true_eq_false, not_false_eq_true, br_u_s, br_u_n, br_u_q, nI_eq, nI_clamp, nI_add, pk_mul, br_R17, br_S17, pk_sub_toInt, br_ltT, br_leT, br_inT, br_nT, br_negT, br_b_0, br_b_1, Int32.toInt_toInt64, pk_lT, br_lnegT] <;> omega)); done)); (focus ((first | rfl | assumption | exact fun z => z rfl | omega | (simp (disch := omega) only [not_true_eq_false, not_false_eq_true, br_u_s, br_u_n, br_u_q, nI_eq, nI_clamp, nI_add, pk_mul, br_R17, br_S17, pk_sub_toInt, br_ltT, br_leT, br_inT, br_nT, br_negT, br_b_0, br_b_1, Int32.toInt_toInt64, pk_lT, br_lnegT] <;> omega)); done)))
        | (refine And.intro ?_ ?_; (focus ((first | rfl | assumption | exact fun z => z rfl | omega | (simp (disch := omega) only [not_true_eq_false, not_false_eq_true, br_u_s, br_u_n, br_u_q, nI_eq, nI_clamp, nI_add, pk_mul, br_R17, br_S17, pk_sub_toInt, br_ltT, br_leT, br_inT, br_nT, br_negT, br_b_0, br_b_1, Int32.toInt_toInt64, pk_lT, br_lnegT] <;> omega)); done))))
end
