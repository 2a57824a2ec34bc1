set_option maxRecDepth 100000
set_option maxHeartbeats 4000000
/-! needed; rows -/
def bm_ch (a c : Nat) : Nat → Nat
  | 0 => 1
  | i + 1 => bm_ch a c i * (a - c + (i + 1)) / (i + 1)
def bm_cm (r : Nat) : Nat → Nat
  | 0 => 1
  | k + 1 => bm_cm r k * (r - (k + 1) + 1) / (k + 1)
theorem bm_ch_b : ∀ a, a < 19 → ∀ c, c < 19 → c ≤ a → ∀ i, i < c → bm_ch a c i * (a - c + (i + 1)) < 2 ^ 31 := by decide +kernel
theorem bm_ch_b2 : ∀ a, a < 19 → ∀ c, c < 19 → c ≤ a → ∀ i, i < c + 1 → bm_ch a c i < 2 ^ 20 := by decide +kernel
theorem bm_cm_b : ∀ r, r < 19 → ∀ i, i < r / 2 → bm_cm r i * (r - (i + 1) + 1) < 2 ^ 31 := by decide +kernel
theorem bm_cm_e : ∀ r, r < 19 → bm_cm r (r / 2) = bm_ch r (r / 2) (r / 2) := by decide +kernel
def bm_need (x : Int32) : Nat → Nat → Int32
  | 0, _ => -(nI 1)
  | f + 1, m => if nI (bm_ch m (m / 2) (m / 2)) < x then bm_need x f (m + 1) else nI m
theorem bm_need_T {x : Int32} {f m : Nat} (h : nI (bm_ch m (m / 2) (m / 2)) < x) : bm_need x (f + 1) m = bm_need x f (m + 1) := if_pos h
theorem bm_need_F {x : Int32} {f m : Nat} (h : ¬ nI (bm_ch m (m / 2) (m / 2)) < x) : bm_need x (f + 1) m = nI m := if_neg h
section
variable {d n : Nat} {Q : br_Q} {I : Nat → Nat → Int32} {L : Nat → Nat → Int64}
theorem rs_choices {a c : Nat} {z2 z3 : Option Value} (ha : a ≤ 18) (hc : c ≤ a) (H : Q (some (.int (nI (bm_ch a c c)))) (br_hp n I L)) : br_r d 129 0 [some (.int (nI a)), some (.int (nI c)), z2, z3] [] (br_hp n I L) Q := by
  have loop : ∀ k i, i + k = c → br_r d 129 4 [some (.int (nI a)), some (.int (nI c)), some (.int (nI (bm_ch a c i))), some (.int (nI (i + 1)))] [] (br_hp n I L) Q := by
    intro k
    induction k with
    | zero =>
      intro i hi
      have : i = c := by omega
      subst this
      exact rb_Sample_choices_4 (br_t (nI_lt (by omega) (by omega)) H)
    | succ k ih =>
      intro i hi
      have h1 := ih (i + 1) (by omega)
      have b := bm_ch_b a (by omega) c (by omega) hc i (by omega)
      refine rb_Sample_choices_4 (br_f (nI_nlt (by omega) (by omega)) ⟨nI_ne0 (by omega) (by omega), ?_⟩)
      rw [pk_sub hc, nI_add, pk_mul, pk_div b (by omega) (by omega), nI_add]
      exact h1
  exact rb_Sample_choices_0 (loop c 0 (by omega))
theorem rs_fillJ {p l : Nat} {x : Int64} {z3 z4 : Option Value} (hp : br_S0 n p = (2, l)) (h8 : 8 ≤ p) (hl : l < 2 ^ 31) (H : Q none (br_hp n I (br_row L p 0 (fun _ => x) l))) : br_r d 177 0 [some (.ref p), some (.long x), none, z3, z4] [] (br_hp n I L) Q := by
  have loop : ∀ k i, i + k = l → br_r d 177 6 [some (.ref p), some (.long x), none, some (.int (nI i)), some (.int (nI l))] [] (br_hp n I (br_row L p 0 (fun _ => x) i)) Q := by
    intro k
    induction k with
    | zero =>
      intro i hi
      have : i = l := by omega
      subst this
      exact rb_Arrays_fill_aJJ_6 (br_t (nI_le (Nat.le_refl _) (by omega)) H)
    | succ k ih =>
      intro i hi
      have h1 := ih (i + 1) (by omega)
      rw [br_row_s, Nat.zero_add] at h1
      refine rb_Arrays_fill_aJJ_6 (br_f (nI_ge (by omega) hl) ?_)
      rw [hp, nI_clamp (by omega), nI_add]
      exact ⟨rfl, h8, vp_in_nI (by omega) hl, h1⟩
  have l0 := loop l 0 (by omega)
  rw [br_row_0] at l0
  refine rb_Arrays_fill_aJJ_0 ?_
  rw [hp]
  exact ⟨rfl, l0⟩
end
section
variable {n : Nat} {xs : Nat → Int32} {I : Nat → Nat → Int32} {L : Nat → Nat → Int64}
theorem bp_needed (hI : br_Inv xs I L) (x1 : Int32) : br_pair n xs 173 287 [some (.ref 8), some (.int x1), none] [some (.ref 169), some (.int x1), none, none, none, none] I L := by
  by_cases h1 : 2 ≤ x1.toInt ∧ x1.toInt ≤ 40000
  · refine br_pair_rd hI (v := bm_need x1 17 2) (fun d Q H => ?_) (fun d Q H => ?_)
    · have loop : ∀ f m, m + f = 19 → Q (some (.int (bm_need x1 f m))) (br_hp n I L) → br_r (d + 80) 173 19 [some (.ref 8), some (.int x1), some (.int (nI m))] [] (br_hp n I L) Q := by
        intro f
        induction f with
        | zero =>
          intro m hm h
          have : m = 19 := by omega
          subst this
          exact rb_A_needed_19 (br_t (nI_lt (by omega) (by omega)) h)
        | succ f ih =>
          intro m hm h
          refine rb_A_needed_19 (br_f (nI_nlt (by omega) (by omega)) ?_)
          rw [pk_div (by omega) (by omega) (by omega)]
          refine rs_choices (by omega) (by omega) (rb_A_needed_32 ⟨fun h2 => ?_, fun h2 => ?_⟩)
          · rw [nI_add]
            rw [bm_need_T h2] at h
            exact ih (m + 1) (by omega) h
          · rw [bm_need_F h2] at h
            exact h
      refine rb_A_needed_0 (rs_out_F ?_ (rb_A_needed_8 (br_t rfl (loop 17 2 (by omega) H))))
      rw [nI_toInt (by omega), nI_toInt (by omega)]
      exact h1
    · have loop : ∀ f m (z3 z4 z5 : Option Value), m + f = 19 → Q (some (.int (bm_need x1 f m))) (br_hp n (br_u I 169 0 (nI 0)) L) → br_r (d + 80) 287 28 [some (.ref 169), some (.int x1), some (.int (nI m)), z3, z4, z5] [] (br_hp n (br_u I 169 0 (nI 0)) L) Q := by
        intro f
        induction f with
        | zero =>
          intro m z3 z4 z5 hm h
          have : m = 19 := by omega
          subst this
          exact rb_M_needed_28 (br_t (nI_lt (by omega) (by omega)) h)
        | succ f ih =>
          intro m z3 z4 z5 hm h
          refine rb_M_needed_28 (br_f (nI_nlt (by omega) (by omega)) ?_)
          have inner : ∀ k i, i + k = m / 2 → br_r (d + 80) 287 39 [some (.ref 169), some (.int x1), some (.int (nI m)), some (.long (lN (bm_cm m i))), none, some (.int (nI (i + 1)))] [] (br_hp n (br_u I 169 0 (nI 0)) L) Q := by
            intro k
            induction k with
            | zero =>
              intro i hi
              have : i = m / 2 := by omega
              subst this
              have b := bm_ch_b2 m (by omega) (m / 2) (by omega) (by omega) (m / 2) (by omega)
              refine rb_M_needed_39 (br_t ?_ ?_)
              · rw [pk_div (by omega) (by omega) (by omega)]; exact nI_lt (by omega) (by omega)
              · rw [bm_cm_e m (by omega)]
                have e : lg_cmp (lN (bm_ch m (m / 2) (m / 2))) x1.toInt64 < nI 0 ↔ nI (bm_ch m (m / 2) (m / 2)) < x1 := by
                  rw [br_cmp0, Int64.lt_iff_toInt_lt, br_ltT, Int32.toInt_toInt64, pk_lT (by omega), nI_toInt (by omega)]
                rw [e]
                refine ⟨fun h2 => ?_, fun h2 => ?_⟩
                · rw [nI_add]
                  rw [bm_need_T h2] at h
                  exact ih (m + 1) _ _ _ (by omega) h
                · rw [bm_need_F h2] at h
                  exact h
            | succ k ihk =>
              intro i hi
              have hk := ihk (i + 1) (by omega)
              have b := bm_cm_b m (by omega) i (by omega)
              refine rb_M_needed_39 (br_f ?_ ?_)
              · rw [pk_div (by omega) (by omega) (by omega)]; exact nI_nlt (by omega) (by omega)
              · have e1 : nI (m - (i + 1) + 1) = nI m - nI (i + 1) + nI 1 := by rw [pk_sub (by omega), nI_add]
                rw [← e1, nI_l (by omega), nI_l (by omega), lN_mul, pk_lDiv (by omega) (by omega) (by omega), nI_add]
                refine ⟨fun z => ?_, hk⟩
                have z2 : lN (i + 1) = lN 0 := z
                rw [pk_lEQ (by omega) (by omega)] at z2
                omega
          exact inner (m / 2) 0 (by omega)
      refine rb_M_needed_0 (rs_wi_T ?_ (rb_M_needed_16 (br_t br_10 (loop 17 2 _ _ _ (by omega) H))))
      rw [pk_lT (by omega), pk_lT (by omega), Int32.toInt_toInt64]
      exact h1
  · refine br_pair_no hI (k := 3) (by omega) (v := -(nI 3)) (fun d Q H => ?_) (fun d Q H => ?_)
    · repeat (first
        | exact H
        | (refine br_t ?_ ?_; (focus ((first | rfl | assumption | exact fun z => z rfl | omega | (simp (disch := omega) only [not_true_eq_false, not_false_eq_true, br_u_s, br_u_n, br_u_q, nI_eq, nI_clamp, nI_add, pk_mul, br_R17, br_S17, pk_sub_toInt, br_ltT, br_leT, br_inT, br_nT, br_negT, br_b_0, br_b_1, Int32.toInt_toInt64, pk_lT, br_lnegT] <;> omega)); done)))
        | (refine br_f ?_ ?_; (focus ((first | rfl | assumption | exact fun z => z rfl | omega | (simp (disch := omega) only [not_true_eq_false, not_false_eq_true, br_u_s, br_u_n, br_u_q, nI_eq, nI_clamp, nI_add, pk_mul, br_R17, br_S17, pk_sub_toInt, br_ltT, br_leT, br_inT, br_nT, br_negT, br_b_0, br_b_1, Int32.toInt_toInt64, pk_lT, br_lnegT] <;> omega)); done)))
        | refine rb_A_needed_0 ?_
        | refine rb_A_needed_8 ?_
        | refine rb_A_needed_16 ?_
        | refine rb_A_needed_19 ?_
        | refine rb_A_needed_32 ?_
        | (refine rs_out_F ?_ ?_; (focus ((first | rfl | assumption | exact fun z => z rfl | omega | (simp (disch := omega) only [not_true_eq_false, not_false_eq_true, br_u_s, br_u_n, br_u_q, nI_eq, nI_clamp, nI_add, pk_mul, br_R17, br_S17, pk_sub_toInt, br_ltT, br_leT, br_inT, br_nT, br_negT, br_b_0, br_b_1, Int32.toInt_toInt64, pk_lT, br_lnegT] <;> omega)); done)))
        | (refine rs_out_T ?_ ?_; (focus ((first | rfl | assumption | exact fun z => z rfl | omega | (simp (disch := omega) only [not_true_eq_false, not_false_eq_true, br_u_s, br_u_n, br_u_q, nI_eq, nI_clamp, nI_add, pk_mul, br_R17, br_S17, pk_sub_toInt, br_ltT, br_leT, br_inT, br_nT, br_negT, br_b_0, br_b_1, Int32.toInt_toInt64, pk_lT, br_lnegT] <;> omega)); done)))
        | (refine rs_noChild_F (N := N) ?_ ?_ ?_ ?_; (focus ((first | rfl | assumption | exact fun z => z rfl | omega | (simp (disch := omega) only [not_true_eq_false, not_false_eq_true, br_u_s, br_u_n, br_u_q, nI_eq, nI_clamp, nI_add, pk_mul, br_R17, br_S17, pk_sub_toInt, br_ltT, br_leT, br_inT, br_nT, br_negT, br_b_0, br_b_1, Int32.toInt_toInt64, pk_lT, br_lnegT] <;> omega)); done)); (focus ((first | rfl | assumption | exact fun z => z rfl | omega | (simp (disch := omega) only [not_true_eq_false, not_false_eq_true, br_u_s, br_u_n, br_u_q, nI_eq, nI_clamp, nI_add, pk_mul, br_R17, br_S17, pk_sub_toInt, br_ltT, br_leT, br_inT, br_nT, br_negT, br_b_0, br_b_1, Int32.toInt_toInt64, pk_lT, br_lnegT] <;> omega)); done)); (focus ((first | rfl | assumption | exact fun z => z rfl | omega | (simp (disch := omega) only [not_true_eq_false, not_false_eq_true, br_u_s, br_u_n, br_u_q, nI_eq, nI_clamp, nI_add, pk_mul, br_R17, br_S17, pk_sub_toInt, br_ltT, br_leT, br_inT, br_nT, br_negT, br_b_0, br_b_1, Int32.toInt_toInt64, pk_lT, br_lnegT] <;> omega)); done)))
        | (refine rs_noChild_T (N := N) ?_ ?_ ?_ ?_; (focus ((first | rfl | assumption | exact fun z => z rfl | omega | (simp (disch := omega) only [not_true_eq_false, not_false_eq_true, br_u_s, br_u_n, br_u_q, nI_eq, nI_clamp, nI_add, pk_mul, br_R17, br_S17, pk_sub_toInt, br_ltT, br_leT, br_inT, br_nT, br_negT, br_b_0, br_b_1, Int32.toInt_toInt64, pk_lT, br_lnegT] <;> omega)); done)); (focus ((first | rfl | assumption | exact fun z => z rfl | omega | (simp (disch := omega) only [not_true_eq_false, not_false_eq_true, br_u_s, br_u_n, br_u_q, nI_eq, nI_clamp, nI_add, pk_mul, br_R17, br_S17, pk_sub_toInt, br_ltT, br_leT, br_inT, br_nT, br_negT, br_b_0, br_b_1, Int32.toInt_toInt64, pk_lT, br_lnegT] <;> omega)); done)); (focus ((first | rfl | assumption | exact fun z => z rfl | omega | (simp (disch := omega) only [not_true_eq_false, not_false_eq_true, br_u_s, br_u_n, br_u_q, nI_eq, nI_clamp, nI_add, pk_mul, br_R17, br_S17, pk_sub_toInt, br_ltT, br_leT, br_inT, br_nT, br_negT, br_b_0, br_b_1, Int32.toInt_toInt64, pk_lT, br_lnegT] <;> omega)); done)))
        | (refine rs_noTest_F ?_ ?_; (focus ((first | rfl | assumption | exact fun z => z rfl | omega | (simp (disch := omega) only [not_true_eq_false, not_false_eq_true, br_u_s, br_u_n, br_u_q, nI_eq, nI_clamp, nI_add, pk_mul, br_R17, br_S17, pk_sub_toInt, br_ltT, br_leT, br_inT, br_nT, br_negT, br_b_0, br_b_1, Int32.toInt_toInt64, pk_lT, br_lnegT] <;> omega)); done)))
        | (refine rs_noTest_T ?_ ?_; (focus ((first | rfl | assumption | exact fun z => z rfl | omega | (simp (disch := omega) only [not_true_eq_false, not_false_eq_true, br_u_s, br_u_n, br_u_q, nI_eq, nI_clamp, nI_add, pk_mul, br_R17, br_S17, pk_sub_toInt, br_ltT, br_leT, br_inT, br_nT, br_negT, br_b_0, br_b_1, Int32.toInt_toInt64, pk_lT, br_lnegT] <;> omega)); done)))
        | (refine rs_refuse ?_ ?_; (focus ((first | rfl | assumption | exact fun z => z rfl | omega | (simp (disch := omega) only [not_true_eq_false, not_false_eq_true, br_u_s, br_u_n, br_u_q, nI_eq, nI_clamp, nI_add, pk_mul, br_R17, br_S17, pk_sub_toInt, br_ltT, br_leT, br_inT, br_nT, br_negT, br_b_0, br_b_1, Int32.toInt_toInt64, pk_lT, br_lnegT] <;> omega)); done)))
        | (refine And.intro ?_ ?_; (focus ((first | rfl | assumption | exact fun z => z rfl | omega | (simp (disch := omega) only [not_true_eq_false, not_false_eq_true, br_u_s, br_u_n, br_u_q, nI_eq, nI_clamp, nI_add, pk_mul, br_R17, br_S17, pk_sub_toInt, br_ltT, br_leT, br_inT, br_nT, br_negT, br_b_0, br_b_1, Int32.toInt_toInt64, pk_lT, br_lnegT] <;> omega)); done))))
    · repeat (first
        | exact H
        | (refine br_t ?_ ?_; (focus ((first | rfl | assumption | exact fun z => z rfl | omega | (simp (disch := omega) only [not_true_eq_false, not_false_eq_true, br_u_s, br_u_n, br_u_q, nI_eq, nI_clamp, nI_add, pk_mul, br_R17, br_S17, pk_sub_toInt, br_ltT, br_leT, br_inT, br_nT, br_negT, br_b_0, br_b_1, Int32.toInt_toInt64, pk_lT, br_lnegT] <;> omega)); done)))
        | (refine br_f ?_ ?_; (focus ((first | rfl | assumption | exact fun z => z rfl | omega | (simp (disch := omega) only [not_true_eq_false, not_false_eq_true, br_u_s, br_u_n, br_u_q, nI_eq, nI_clamp, nI_add, pk_mul, br_R17, br_S17, pk_sub_toInt, br_ltT, br_leT, br_inT, br_nT, br_negT, br_b_0, br_b_1, Int32.toInt_toInt64, pk_lT, br_lnegT] <;> omega)); done)))
        | refine rb_M_needed_0 ?_
        | refine rb_M_needed_16 ?_
        | refine rb_M_needed_25 ?_
        | refine rb_M_needed_28 ?_
        | refine rb_M_needed_39 ?_
        | (refine rs_wi_T ?_ ?_; (focus ((first | rfl | assumption | exact fun z => z rfl | omega | (simp (disch := omega) only [not_true_eq_false, not_false_eq_true, br_u_s, br_u_n, br_u_q, nI_eq, nI_clamp, nI_add, pk_mul, br_R17, br_S17, pk_sub_toInt, br_ltT, br_leT, br_inT, br_nT, br_negT, br_b_0, br_b_1, Int32.toInt_toInt64, pk_lT, br_lnegT] <;> omega)); done)))
        | (refine rs_wi_F ?_ ?_; (focus ((first | rfl | assumption | exact fun z => z rfl | omega | (simp (disch := omega) only [not_true_eq_false, not_false_eq_true, br_u_s, br_u_n, br_u_q, nI_eq, nI_clamp, nI_add, pk_mul, br_R17, br_S17, pk_sub_toInt, br_ltT, br_leT, br_inT, br_nT, br_negT, br_b_0, br_b_1, Int32.toInt_toInt64, pk_lT, br_lnegT] <;> omega)); done)))
        | (refine rs_isChild_T (N := N) ?_ ?_ ?_ ?_; (focus ((first | rfl | assumption | exact fun z => z rfl | omega | (simp (disch := omega) only [not_true_eq_false, not_false_eq_true, br_u_s, br_u_n, br_u_q, nI_eq, nI_clamp, nI_add, pk_mul, br_R17, br_S17, pk_sub_toInt, br_ltT, br_leT, br_inT, br_nT, br_negT, br_b_0, br_b_1, Int32.toInt_toInt64, pk_lT, br_lnegT] <;> omega)); done)); (focus ((first | rfl | assumption | exact fun z => z rfl | omega | (simp (disch := omega) only [not_true_eq_false, not_false_eq_true, br_u_s, br_u_n, br_u_q, nI_eq, nI_clamp, nI_add, pk_mul, br_R17, br_S17, pk_sub_toInt, br_ltT, br_leT, br_inT, br_nT, br_negT, br_b_0, br_b_1, Int32.toInt_toInt64, pk_lT, br_lnegT] <;> omega)); done)); (focus ((first | rfl | assumption | exact fun z => z rfl | omega | (simp (disch := omega) only [not_true_eq_false, not_false_eq_true, br_u_s, br_u_n, br_u_q, nI_eq, nI_clamp, nI_add, pk_mul, br_R17, br_S17, pk_sub_toInt, br_ltT, br_leT, br_inT, br_nT, br_negT, br_b_0, br_b_1, Int32.toInt_toInt64, pk_lT, br_lnegT] <;> omega)); done)))
        | (refine rs_isChild_F (N := N) ?_ ?_ ?_ ?_; (focus ((first | rfl | assumption | exact fun z => z rfl | omega | (simp (disch := omega) only [not_true_eq_false, not_false_eq_true, br_u_s, br_u_n, br_u_q, nI_eq, nI_clamp, nI_add, pk_mul, br_R17, br_S17, pk_sub_toInt, br_ltT, br_leT, br_inT, br_nT, br_negT, br_b_0, br_b_1, Int32.toInt_toInt64, pk_lT, br_lnegT] <;> omega)); done)); (focus ((first | rfl | assumption | exact fun z => z rfl | omega | (simp (disch := omega) only [not_true_eq_false, not_false_eq_true, br_u_s, br_u_n, br_u_q, nI_eq, nI_clamp, nI_add, pk_mul, br_R17, br_S17, pk_sub_toInt, br_ltT, br_leT, br_inT, br_nT, br_negT, br_b_0, br_b_1, Int32.toInt_toInt64, pk_lT, br_lnegT] <;> omega)); done)); (focus ((first | rfl | assumption | exact fun z => z rfl | omega | (simp (disch := omega) only [not_true_eq_false, not_false_eq_true, br_u_s, br_u_n, br_u_q, nI_eq, nI_clamp, nI_add, pk_mul, br_R17, br_S17, pk_sub_toInt, br_ltT, br_leT, br_inT, br_nT, br_negT, br_b_0, br_b_1, Int32.toInt_toInt64, pk_lT, br_lnegT] <;> omega)); done)))
        | (refine rs_isTest_T ?_ ?_; (focus ((first | rfl | assumption | exact fun z => z rfl | omega | (simp (disch := omega) only [not_true_eq_false, not_false_eq_true, br_u_s, br_u_n, br_u_q, nI_eq, nI_clamp, nI_add, pk_mul, br_R17, br_S17, pk_sub_toInt, br_ltT, br_leT, br_inT, br_nT, br_negT, br_b_0, br_b_1, Int32.toInt_toInt64, pk_lT, br_lnegT] <;> omega)); done)))
        | (refine rs_isTest_F ?_ ?_; (focus ((first | rfl | assumption | exact fun z => z rfl | omega | (simp (disch := omega) only [not_true_eq_false, not_false_eq_true, br_u_s, br_u_n, br_u_q, nI_eq, nI_clamp, nI_add, pk_mul, br_R17, br_S17, pk_sub_toInt, br_ltT, br_leT, br_inT, br_nT, br_negT, br_b_0, br_b_1, Int32.toInt_toInt64, pk_lT, br_lnegT] <;> omega)); done)))
        | (refine rs_no ?_ ?_; (focus ((first | rfl | assumption | exact fun z => z rfl | omega | (simp (disch := omega) only [not_true_eq_false, not_false_eq_true, br_u_s, br_u_n, br_u_q, nI_eq, nI_clamp, nI_add, pk_mul, br_R17, br_S17, pk_sub_toInt, br_ltT, br_leT, br_inT, br_nT, br_negT, br_b_0, br_b_1, Int32.toInt_toInt64, pk_lT, br_lnegT] <;> omega)); done)))
        | (refine rs_pointOf ?_ ?_ ?_; (focus ((first | rfl | assumption | exact fun z => z rfl | omega | (simp (disch := omega) only [not_true_eq_false, not_false_eq_true, br_u_s, br_u_n, br_u_q, nI_eq, nI_clamp, nI_add, pk_mul, br_R17, br_S17, pk_sub_toInt, br_ltT, br_leT, br_inT, br_nT, br_negT, br_b_0, br_b_1, Int32.toInt_toInt64, pk_lT, br_lnegT] <;> omega)); done)); (focus ((first | rfl | assumption | exact fun z => z rfl | omega | (simp (disch := omega) only [not_true_eq_false, not_false_eq_true, br_u_s, br_u_n, br_u_q, nI_eq, nI_clamp, nI_add, pk_mul, br_R17, br_S17, pk_sub_toInt, br_ltT, br_leT, br_inT, br_nT, br_negT, br_b_0, br_b_1, Int32.toInt_toInt64, pk_lT, br_lnegT] <;> omega)); done)))
        | (refine And.intro ?_ ?_; (focus ((first | rfl | assumption | exact fun z => z rfl | omega | (simp (disch := omega) only [not_true_eq_false, not_false_eq_true, br_u_s, br_u_n, br_u_q, nI_eq, nI_clamp, nI_add, pk_mul, br_R17, br_S17, pk_sub_toInt, br_ltT, br_leT, br_inT, br_nT, br_negT, br_b_0, br_b_1, Int32.toInt_toInt64, pk_lT, br_lnegT] <;> omega)); done))))
end
