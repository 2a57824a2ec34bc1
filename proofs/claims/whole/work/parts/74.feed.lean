set_option maxRecDepth 100000
set_option maxHeartbeats 4000000
theorem br_255 (i : Nat) (h : i < 32) : (255#32).getLsbD i = decide (i < 8) := by
  revert i; decide
theorem br_byte (y : Int32) : vp_nar .byte y.toInt8.toInt32 &&& nI 255 = y &&& nI 255 := by
  rw [vp_nar_byte]
  apply Int32.toBitVec_inj.mp
  apply BitVec.eq_of_getLsbD_eq
  intro i hi
  have e : (nI 255).toBitVec = 255#32 := by decide +kernel
  simp only [Int32.toBitVec_and, BitVec.getLsbD_and, e, br_255 i hi]
  by_cases h : i < 8
  · have e2 : (y.toInt8.toInt32.toInt8.toInt32).toBitVec.getLsbD i = y.toBitVec.getLsbD i := by
      simp only [Int8.toBitVec_toInt32, Int32.toBitVec_toInt8, BitVec.getLsbD_signExtend]
      simp [h, hi]
    rw [e2]
  · simp [h]
def br_fX (x1 x2 x3 x4 x5 : Int32) (i : Nat) : Int32 := if i < 4 then x1 else if i < 8 then x2 else if i < 12 then x3 else if i < 16 then x4 else x5
def br_fV (x1 x2 x3 x4 x5 : Int32) (i : Nat) : Int32 := (br_fX x1 x2 x3 x4 x5 i >>> ((nI 24 - nI 8 * (nI i - nI i / nI 4 * nI 4)) &&& 31)) &&& nI 255
def br_ax (i : Nat) : Int32 := nI 24 - nI (8 * i)
theorem br_ax0 : br_ax 0 = nI 24 := by decide +kernel
theorem br_ax4 : br_ax 4 < nI 0 := by decide +kernel
theorem br_axn : ∀ i, i < 4 → ¬ br_ax i < nI 0 := by decide +kernel
theorem br_axs : ∀ i, i < 4 → br_ax i + -(nI 8) = br_ax (i + 1) := by decide +kernel
theorem br_axe : ∀ w, w < 5 → ∀ t, t < 4 → nI 24 - nI 8 * (nI (4 * w + t) - nI (4 * w + t) / nI 4 * nI 4) = br_ax t := by decide +kernel
section
variable {d n : Nat} {Q : br_Q} {I : Nat → Nat → Int32} {L : Nat → Nat → Int64}
theorem rs_append {x : Int32} {z2 : Option Value} {T : Nat} (h0 : I 55 1 = nI T) (hT : T + 4 ≤ 400)
    (H : ∀ J : Nat → Nat → Int32, (∀ p j, ¬ (p = 55 ∧ j = 1) → ¬ (p = 56 ∧ T ≤ j ∧ j < T + 4) → J p j = I p j) → J 55 1 = nI (T + 4) → (∀ t, t < 4 → J 56 (T + t) &&& nI 255 = (x >>> (br_ax t &&& 31)) &&& nI 255) → Q none (br_hp n J L)) :
    br_r d 37 0 [some (.ref 55), some (.int x), z2] [] (br_hp n I L) Q := by
  have loop : ∀ k i (J : Nat → Nat → Int32), i + k = 4 → (∀ p j, ¬ (p = 55 ∧ j = 1) → ¬ (p = 56 ∧ T ≤ j ∧ j < T + 4) → J p j = I p j) → J 55 1 = nI (T + i) → (∀ t, t < i → J 56 (T + t) &&& nI 255 = (x >>> (br_ax t &&& 31)) &&& nI 255) →
      br_r d 37 3 [some (.ref 55), some (.int x), some (.int (br_ax i))] [] (br_hp n J L) Q := by
    intro k
    induction k with
    | zero =>
      intro i J hi hf h6 hv
      have : i = 4 := by omega
      subst this
      exact rb_Tokens_append_3 (br_t br_ax4 (H J hf h6 hv))
    | succ k ih =>
      intro i J hi hf h6 hv
      refine rb_Tokens_append_3 (br_f (br_axn i (by omega)) (br_f ?_ ?_))
      · rw [h6]; exact nI_ge (by omega) (by omega)
      rw [h6, nI_clamp (by omega), br_axs i (by omega)]
      refine ⟨vp_in_nI (by omega) (by omega), ih (i + 1) _ (by omega) (fun p j h1 h2 => ?_) ?_ (fun t ht => ?_)⟩
      · rw [br_u_n (by omega), br_u_n (by omega)]; exact hf p j h1 h2
      · rw [br_u_s, br_u_n (by omega), h6, nI_add]; rfl
      · by_cases e : t = i
        · subst e
          rw [br_u_n (by omega), br_u_s, br_byte]
        · rw [br_u_n (by omega), br_u_n (by omega)]; exact hv t (by omega)
  refine rb_Tokens_append_0 ?_
  rw [← br_ax0]
  exact loop 4 0 I (by omega) (fun _ _ _ _ => rfl) h0 (fun t ht => absurd ht (by omega))
theorem rs_M_feed {x1 x2 x3 x4 x5 : Int32} {z7 : Option Value} {T : Nat} (h0 : I 169 6 = nI T) (hT : T + 20 ≤ 400)
    (H : ∀ J : Nat → Nat → Int32, (∀ p j, ¬ (p = 169 ∧ j = 6) → ¬ (p = 173 ∧ T ≤ j ∧ j < T + 20) → J p j = I p j) → J 169 6 = nI (T + 20) → (∀ t, t < 20 → J 173 (T + t) = br_fV x1 x2 x3 x4 x5 t) → Q (some (.int (nI (T + 20)))) (br_hp n J L)) :
    br_r (d + 1) 202 28 [some (.ref 169), some (.int x1), some (.int x2), some (.int x3), some (.int x4), some (.int x5), some (.int (nI 0)), z7] [] (br_hp n I L) Q := by
  have loop : ∀ k i (J : Nat → Nat → Int32) (z7 : Option Value), i + k = 20 → (∀ p j, ¬ (p = 169 ∧ j = 6) → ¬ (p = 173 ∧ T ≤ j ∧ j < T + 20) → J p j = I p j) → J 169 6 = nI (T + i) → (∀ t, t < i → J 173 (T + t) = br_fV x1 x2 x3 x4 x5 t) →
      br_r (d + 1) 202 28 [some (.ref 169), some (.int x1), some (.int x2), some (.int x3), some (.int x4), some (.int x5), some (.int (nI i)), z7] [] (br_hp n J L) Q := by
    intro k
    induction k with
    | zero =>
      intro i J z7 hi hf h6 hv
      have : i = 20 := by omega
      subst this
      refine rb_M_feed_28 (br_t (nI_le (Nat.le_refl 20) (by omega)) ?_)
      rw [h6]; exact H J hf h6 hv
    | succ k ih =>
      intro i J z7 hi hf h6 hv
      have go : ∀ (x : Int32) (z : Option Value), x = br_fX x1 x2 x3 x4 x5 i → vp_in (J 169 6) 400 ∧ br_r (d + 1) 202 28 [some (.ref 169), some (.int x1), some (.int x2), some (.int x3), some (.int x4), some (.int x5), some (.int (nI i + nI 1)), z] [] (br_hp n (br_u (br_u J 173 (J 169 6).toNatClampNeg ((x >>> ((nI 24 - nI 8 * (nI i - nI i / nI 4 * nI 4)) &&& 31)) &&& nI 255)) 169 6 (br_u J 173 (J 169 6).toNatClampNeg ((x >>> ((nI 24 - nI 8 * (nI i - nI i / nI 4 * nI 4)) &&& 31)) &&& nI 255) 169 6 + nI 1)) L) Q := by
        intro x z hx
        rw [h6, nI_clamp (by omega), nI_add]
        refine ⟨vp_in_nI (by omega) (by omega), ih (i + 1) _ z (by omega) (fun p j h1 h2 => ?_) ?_ (fun t ht => ?_)⟩
        · rw [br_u_n (by omega), br_u_n (by omega)]; exact hf p j h1 h2
        · rw [br_u_s, br_u_n (by omega), h6, nI_add]; rfl
        · by_cases e : t = i
          · subst e
            rw [br_u_n (by omega), br_u_s, hx]; rfl
          · rw [br_u_n (by omega), br_u_n (by omega)]; exact hv t (by omega)
      refine rb_M_feed_28 (br_f (nI_ge (b := 20) (by omega) (by omega)) ⟨fun h4 => ⟨fun h8 => ⟨fun h12 => ⟨fun h16 => go _ _ ?_, fun h16 => go _ _ ?_⟩, fun h12 => go _ _ ?_⟩, fun h8 => go _ _ ?_⟩, fun h4 => go _ _ ?_⟩)
      · rw [nI_leI (by omega) (by omega)] at h4 h8 h12 h16
        unfold br_fX; rw [if_neg (by omega), if_neg (by omega), if_neg (by omega), if_neg (by omega)]
      · rw [nI_leI (by omega) (by omega)] at h4 h8 h12 h16
        unfold br_fX; rw [if_neg (by omega), if_neg (by omega), if_neg (by omega), if_pos (by omega)]
      · rw [nI_leI (by omega) (by omega)] at h4 h8 h12
        unfold br_fX; rw [if_neg (by omega), if_neg (by omega), if_pos (by omega)]
      · rw [nI_leI (by omega) (by omega)] at h4 h8
        unfold br_fX; rw [if_neg (by omega), if_pos (by omega)]
      · rw [nI_leI (by omega) (by omega)] at h4
        unfold br_fX; rw [if_pos (by omega)]
  exact loop 20 0 I z7 (by omega) (fun _ _ _ _ => rfl) h0 (fun t ht => absurd ht (by omega))
end
section
variable {n : Nat} {xs : Nat → Int32} {I : Nat → Nat → Int32} {L : Nat → Nat → Int64}
theorem bp_feed (hI : br_Inv xs I L) (x1 x2 x3 x4 x5 : Int32) : br_pair n xs 36 202 [some (.ref 8), some (.int x1), some (.int x2), some (.int x3), some (.int x4), some (.int x5), none] [some (.ref 169), some (.int x1), some (.int x2), some (.int x3), some (.int x4), some (.int x5), none, none] I L := by
  obtain ⟨T, hT, e1, e2, e3⟩ := hI.2.1.2.2.1
  by_cases h : T + 20 ≤ 400
  · intro d Q K
    refine rb_A_feed_0 (br_t ?_ (rs_append e1 (by omega) (fun J1 f1 g1 v1 => rb_A_feed_35 (rs_append g1 (by omega) (fun J2 f2 g2 v2 => rb_A_feed_41 (rs_append g2 (by omega) (fun J3 f3 g3 v3 => rb_A_feed_47 (rs_append g3 (by omega) (fun J4 f4 g4 v4 => rb_A_feed_54 (rs_append g4 (by omega) (fun J5 f5 g5 v5 => rb_A_feed_61 ?_)))))))))))
    · rw [e1, nI_add]; exact nI_le h (by omega)
    have fr : ∀ p j, ¬ (p = 55 ∧ j = 1) → ¬ (p = 56 ∧ T ≤ j ∧ j < T + 20) → J5 p j = I p j := fun p j q1 q2 => by
      rw [f5 p j q1 (by omega), f4 p j q1 (by omega), f3 p j q1 (by omega), f2 p j q1 (by omega), f1 p j q1 (by omega)]
    have g : J5 55 1 = nI (T + 20) := by rw [g5]
    rw [g]
    refine K _ _ _ (fun j => fr 1 j (by omega) (by omega)) (fun d' Q' k' => rb_M_feed_0 (br_t ?_ (rs_M_feed (T := T) ?_ h (fun M fM gM vM => k' M L ?_))))
    · rw [br_u_n (by omega), fr 169 6 (by omega) (by omega), e2, nI_add]; exact nI_le h (by omega)
    · rw [br_u_n (by omega), fr 169 6 (by omega) (by omega), e2]
    have rd : ∀ p j, ¬ (p = 169 ∧ (j = 6 ∨ j = 0)) → ¬ (p = 173 ∧ T ≤ j ∧ j < T + 20) → ¬ (p = 55 ∧ j = 1) → ¬ (p = 56 ∧ T ≤ j ∧ j < T + 20) → M p j = I p j := fun p j q1 q2 q3 q4 => by
      rw [fM p j (by omega) (by omega), br_u_n (by omega), fr p j q3 q4]
    refine ⟨br_W_c hI.1 (fun p j q1 q2 => rd p j (by omega) (by omega) (by omega) (by omega)) (fun k hk => rd _ _ (by omega) (by omega) (by omega) (by omega)), ⟨?_, ?_, ?_, ?_, ?_⟩, ?_, hI.2.2.2.1, ?_⟩
    · exact br_im_d hI.2.1.1 (fun p j hp => rd p j (by omega) (by omega) (by omega) (by omega))
    · exact br_rw_d hI.2.1.2.1 (fun p j hp => rd p j (by omega) (by omega) (by omega) (by omega)) (fun _ _ _ => rfl)
    · refine ⟨T + 20, h, ?_, gM, fun k hk => ?_⟩
      · rw [fM 55 1 (by omega) (by omega), br_u_n (by omega)]; exact g
      · have m56 : M 56 k = J5 56 k := by rw [fM 56 k (by omega) (by omega), br_u_n (by omega)]
        by_cases hkT : k < T
        · rw [rd 56 k (by omega) (by omega) (by omega) (by omega), rd 173 k (by omega) (by omega) (by omega) (by omega)]
          exact e3 k hkT
        · obtain ⟨t, rfl⟩ : ∃ t, k = T + t := ⟨k - T, by omega⟩
          rw [vM t (by omega), m56]
          have e : J5 56 (T + t) &&& nI 255 = br_fV x1 x2 x3 x4 x5 t := by
            have key : ∀ (w s : Nat) (x : Int32) (J : Nat → Nat → Int32), w < 5 → s < 4 → t = 4 * w + s → x = br_fX x1 x2 x3 x4 x5 t → J5 56 (T + t) = J 56 (T + t) → J 56 (T + t) &&& nI 255 = (x >>> (br_ax s &&& 31)) &&& nI 255 → J5 56 (T + t) &&& nI 255 = br_fV x1 x2 x3 x4 x5 t := by
              intro w s x J hw hs ht hx hj hv
              rw [hj, hv, hx]
              unfold br_fV
              rw [← br_axe w hw s hs, ← ht]
            by_cases c1 : t < 4
            · refine key 0 t x1 J1 (by omega) c1 (by omega) (by unfold br_fX; rw [if_pos (by omega)]) ?_ (v1 t c1)
              rw [f5 _ _ (by omega) (by omega), f4 _ _ (by omega) (by omega), f3 _ _ (by omega) (by omega), f2 _ _ (by omega) (by omega)]
            · by_cases c2 : t < 8
              · refine key 1 (t - 4) x2 J2 (by omega) (by omega) (by omega) (by unfold br_fX; rw [if_neg (by omega), if_pos (by omega)]) ?_ ?_
                · rw [f5 _ _ (by omega) (by omega), f4 _ _ (by omega) (by omega), f3 _ _ (by omega) (by omega)]
                · have := v2 (t - 4) (by omega)
                  rw [show T + 4 + (t - 4) = T + t by omega] at this; exact this
              · by_cases c3 : t < 12
                · refine key 2 (t - 8) x3 J3 (by omega) (by omega) (by omega) (by unfold br_fX; rw [if_neg (by omega), if_neg (by omega), if_pos (by omega)]) ?_ ?_
                  · rw [f5 _ _ (by omega) (by omega), f4 _ _ (by omega) (by omega)]
                  · have := v3 (t - 8) (by omega)
                    rw [show T + 4 + 4 + (t - 8) = T + t by omega] at this; exact this
                · by_cases c4 : t < 16
                  · refine key 3 (t - 12) x4 J4 (by omega) (by omega) (by omega) (by unfold br_fX; rw [if_neg (by omega), if_neg (by omega), if_neg (by omega), if_pos (by omega)]) ?_ ?_
                    · rw [f5 _ _ (by omega) (by omega)]
                    · have := v4 (t - 12) (by omega)
                      rw [show T + 4 + 4 + 4 + (t - 12) = T + t by omega] at this; exact this
                  · refine key 4 (t - 16) x5 J5 (by omega) (by omega) (by omega) (by unfold br_fX; rw [if_neg (by omega), if_neg (by omega), if_neg (by omega), if_neg (by omega)]) rfl ?_
                    have := v5 (t - 16) (by omega)
                    rw [show T + 4 + 4 + 4 + 4 + (t - 16) = T + t by omega] at this; exact this
          obtain ⟨b, hb, eb⟩ := pk_andE (br_fX x1 x2 x3 x4 x5 t >>> ((nI 24 - nI 8 * (nI t - nI t / nI 4 * nI 4)) &&& 31)) (m := nI 255) 8 (by decide +kernel)
          exact ⟨b, hb, e.trans eb, eb⟩
    · exact br_ft_d hI.2.1.2.2.2.1 (fun p j hp => rd p j (by omega) (by omega) (by omega) (by omega))
    · intro p j hp
      rw [rd p j (by omega) (by omega) (by omega) (by omega)]
      exact hI.2.1.2.2.2.2 p j hp
    · exact br_rf_c hI.2.2.1 (fun j => rd 82 j (by omega) (by omega) (by omega) (by omega)) (fun j => rd 170 j (by omega) (by omega) (by omega) (by omega))
    · exact br_wy_c hI.2.2.2.2 (rd 169 25 (by omega) (by omega) (by omega) (by omega)) (rd 169 26 (by omega) (by omega) (by omega) (by omega)) (fun _ => rfl)
  · refine br_pair_no hI (k := 4) (by omega) (v := -(nI 4)) (fun d Q H => ?_) (fun d Q H => ?_)
    · repeat (first
        | exact H
        | (refine br_t ?_ ?_; (focus ((first | rfl | assumption | exact fun z => z rfl | omega | (simp (disch := omega) only [not_true_eq_false, not_false_eq_true, br_u_s, br_u_n, br_u_q, nI_eq, nI_clamp, nI_add, pk_mul, br_R17, br_S17, pk_sub_toInt, br_ltT, br_leT, br_inT, br_nT, br_negT, br_b_0, br_b_1, Int32.toInt_toInt64, pk_lT, br_lnegT, e1] <;> omega)); done)))
        | (refine br_f ?_ ?_; (focus ((first | rfl | assumption | exact fun z => z rfl | omega | (simp (disch := omega) only [not_true_eq_false, not_false_eq_true, br_u_s, br_u_n, br_u_q, nI_eq, nI_clamp, nI_add, pk_mul, br_R17, br_S17, pk_sub_toInt, br_ltT, br_leT, br_inT, br_nT, br_negT, br_b_0, br_b_1, Int32.toInt_toInt64, pk_lT, br_lnegT, e1] <;> omega)); done)))
        | refine rb_A_feed_0 ?_
        | refine rb_A_feed_28 ?_
        | refine rb_A_feed_35 ?_
        | refine rb_A_feed_41 ?_
        | refine rb_A_feed_47 ?_
        | refine rb_A_feed_54 ?_
        | refine rb_A_feed_61 ?_
        | (refine rs_out_F ?_ ?_; (focus ((first | rfl | assumption | exact fun z => z rfl | omega | (simp (disch := omega) only [not_true_eq_false, not_false_eq_true, br_u_s, br_u_n, br_u_q, nI_eq, nI_clamp, nI_add, pk_mul, br_R17, br_S17, pk_sub_toInt, br_ltT, br_leT, br_inT, br_nT, br_negT, br_b_0, br_b_1, Int32.toInt_toInt64, pk_lT, br_lnegT, e1] <;> omega)); done)))
        | (refine rs_out_T ?_ ?_; (focus ((first | rfl | assumption | exact fun z => z rfl | omega | (simp (disch := omega) only [not_true_eq_false, not_false_eq_true, br_u_s, br_u_n, br_u_q, nI_eq, nI_clamp, nI_add, pk_mul, br_R17, br_S17, pk_sub_toInt, br_ltT, br_leT, br_inT, br_nT, br_negT, br_b_0, br_b_1, Int32.toInt_toInt64, pk_lT, br_lnegT, e1] <;> omega)); done)))
        | (refine rs_noChild_F (N := N) ?_ ?_ ?_ ?_; (focus ((first | rfl | assumption | exact fun z => z rfl | omega | (simp (disch := omega) only [not_true_eq_false, not_false_eq_true, br_u_s, br_u_n, br_u_q, nI_eq, nI_clamp, nI_add, pk_mul, br_R17, br_S17, pk_sub_toInt, br_ltT, br_leT, br_inT, br_nT, br_negT, br_b_0, br_b_1, Int32.toInt_toInt64, pk_lT, br_lnegT, e1] <;> omega)); done)); (focus ((first | rfl | assumption | exact fun z => z rfl | omega | (simp (disch := omega) only [not_true_eq_false, not_false_eq_true, br_u_s, br_u_n, br_u_q, nI_eq, nI_clamp, nI_add, pk_mul, br_R17, br_S17, pk_sub_toInt, br_ltT, br_leT, br_inT, br_nT, br_negT, br_b_0, br_b_1, Int32.toInt_toInt64, pk_lT, br_lnegT, e1] <;> omega)); done)); (focus ((first | rfl | assumption | exact fun z => z rfl | omega | (simp (disch := omega) only [not_true_eq_false, not_false_eq_true, br_u_s, br_u_n, br_u_q, nI_eq, nI_clamp, nI_add, pk_mul, br_R17, br_S17, pk_sub_toInt, br_ltT, br_leT, br_inT, br_nT, br_negT, br_b_0, br_b_1, Int32.toInt_toInt64, pk_lT, br_lnegT, e1] <;> omega)); done)))
        | (refine rs_noChild_T (N := N) ?_ ?_ ?_ ?_; (focus ((first | rfl | assumption | exact fun z => z rfl | omega | (simp (disch := omega) only [not_true_eq_false, not_false_eq_true, br_u_s, br_u_n, br_u_q, nI_eq, nI_clamp, nI_add, pk_mul, br_R17, br_S17, pk_sub_toInt, br_ltT, br_leT, br_inT, br_nT, br_negT, br_b_0, br_b_1, Int32.toInt_toInt64, pk_lT, br_lnegT, e1] <;> omega)); done)); (focus ((first | rfl | assumption | exact fun z => z rfl | omega | (simp (disch := omega) only [not_true_eq_false, not_false_eq_true, br_u_s, br_u_n, br_u_q, nI_eq, nI_clamp, nI_add, pk_mul, br_R17, br_S17, pk_sub_toInt, br_ltT, br_leT, br_inT, br_nT, br_negT, br_b_0, br_b_1, Int32.toInt_toInt64, pk_lT, br_lnegT, e1] <;> omega)); done)); (focus ((first | rfl | assumption | exact fun z => z rfl | omega | (simp (disch := omega) only [not_true_eq_false, not_false_eq_true, br_u_s, br_u_n, br_u_q, nI_eq, nI_clamp, nI_add, pk_mul, br_R17, br_S17, pk_sub_toInt, br_ltT, br_leT, br_inT, br_nT, br_negT, br_b_0, br_b_1, Int32.toInt_toInt64, pk_lT, br_lnegT, e1] <;> omega)); done)))
        | (refine rs_noTest_F ?_ ?_; (focus ((first | rfl | assumption | exact fun z => z rfl | omega | (simp (disch := omega) only [not_true_eq_false, not_false_eq_true, br_u_s, br_u_n, br_u_q, nI_eq, nI_clamp, nI_add, pk_mul, br_R17, br_S17, pk_sub_toInt, br_ltT, br_leT, br_inT, br_nT, br_negT, br_b_0, br_b_1, Int32.toInt_toInt64, pk_lT, br_lnegT, e1] <;> omega)); done)))
        | (refine rs_noTest_T ?_ ?_; (focus ((first | rfl | assumption | exact fun z => z rfl | omega | (simp (disch := omega) only [not_true_eq_false, not_false_eq_true, br_u_s, br_u_n, br_u_q, nI_eq, nI_clamp, nI_add, pk_mul, br_R17, br_S17, pk_sub_toInt, br_ltT, br_leT, br_inT, br_nT, br_negT, br_b_0, br_b_1, Int32.toInt_toInt64, pk_lT, br_lnegT, e1] <;> omega)); done)))
        | (refine rs_refuse ?_ ?_; (focus ((first | rfl | assumption | exact fun z => z rfl | omega | (simp (disch := omega) only [not_true_eq_false, not_false_eq_true, br_u_s, br_u_n, br_u_q, nI_eq, nI_clamp, nI_add, pk_mul, br_R17, br_S17, pk_sub_toInt, br_ltT, br_leT, br_inT, br_nT, br_negT, br_b_0, br_b_1, Int32.toInt_toInt64, pk_lT, br_lnegT, e1] <;> omega)); done)))
        | (refine And.intro ?_ ?_; (focus ((first | rfl | assumption | exact fun z => z rfl | omega | (simp (disch := omega) only [not_true_eq_false, not_false_eq_true, br_u_s, br_u_n, br_u_q, nI_eq, nI_clamp, nI_add, pk_mul, br_R17, br_S17, pk_sub_toInt, br_ltT, br_leT, br_inT, br_nT, br_negT, br_b_0, br_b_1, Int32.toInt_toInt64, pk_lT, br_lnegT, e1] <;> omega)); done))))
    · repeat (first
        | exact H
        | (refine br_t ?_ ?_; (focus ((first | rfl | assumption | exact fun z => z rfl | omega | (simp (disch := omega) only [not_true_eq_false, not_false_eq_true, br_u_s, br_u_n, br_u_q, nI_eq, nI_clamp, nI_add, pk_mul, br_R17, br_S17, pk_sub_toInt, br_ltT, br_leT, br_inT, br_nT, br_negT, br_b_0, br_b_1, Int32.toInt_toInt64, pk_lT, br_lnegT, e2] <;> omega)); done)))
        | (refine br_f ?_ ?_; (focus ((first | rfl | assumption | exact fun z => z rfl | omega | (simp (disch := omega) only [not_true_eq_false, not_false_eq_true, br_u_s, br_u_n, br_u_q, nI_eq, nI_clamp, nI_add, pk_mul, br_R17, br_S17, pk_sub_toInt, br_ltT, br_leT, br_inT, br_nT, br_negT, br_b_0, br_b_1, Int32.toInt_toInt64, pk_lT, br_lnegT, e2] <;> omega)); done)))
        | refine rb_M_feed_0 ?_
        | refine rb_M_feed_24 ?_
        | (refine rs_wi_T ?_ ?_; (focus ((first | rfl | assumption | exact fun z => z rfl | omega | (simp (disch := omega) only [not_true_eq_false, not_false_eq_true, br_u_s, br_u_n, br_u_q, nI_eq, nI_clamp, nI_add, pk_mul, br_R17, br_S17, pk_sub_toInt, br_ltT, br_leT, br_inT, br_nT, br_negT, br_b_0, br_b_1, Int32.toInt_toInt64, pk_lT, br_lnegT, e2] <;> omega)); done)))
        | (refine rs_wi_F ?_ ?_; (focus ((first | rfl | assumption | exact fun z => z rfl | omega | (simp (disch := omega) only [not_true_eq_false, not_false_eq_true, br_u_s, br_u_n, br_u_q, nI_eq, nI_clamp, nI_add, pk_mul, br_R17, br_S17, pk_sub_toInt, br_ltT, br_leT, br_inT, br_nT, br_negT, br_b_0, br_b_1, Int32.toInt_toInt64, pk_lT, br_lnegT, e2] <;> omega)); done)))
        | (refine rs_isChild_T (N := N) ?_ ?_ ?_ ?_; (focus ((first | rfl | assumption | exact fun z => z rfl | omega | (simp (disch := omega) only [not_true_eq_false, not_false_eq_true, br_u_s, br_u_n, br_u_q, nI_eq, nI_clamp, nI_add, pk_mul, br_R17, br_S17, pk_sub_toInt, br_ltT, br_leT, br_inT, br_nT, br_negT, br_b_0, br_b_1, Int32.toInt_toInt64, pk_lT, br_lnegT, e2] <;> omega)); done)); (focus ((first | rfl | assumption | exact fun z => z rfl | omega | (simp (disch := omega) only [not_true_eq_false, not_false_eq_true, br_u_s, br_u_n, br_u_q, nI_eq, nI_clamp, nI_add, pk_mul, br_R17, br_S17, pk_sub_toInt, br_ltT, br_leT, br_inT, br_nT, br_negT, br_b_0, br_b_1, Int32.toInt_toInt64, pk_lT, br_lnegT, e2] <;> omega)); done)); (focus ((first | rfl | assumption | exact fun z => z rfl | omega | (simp (disch := omega) only [not_true_eq_false, not_false_eq_true, br_u_s, br_u_n, br_u_q, nI_eq, nI_clamp, nI_add, pk_mul, br_R17, br_S17, pk_sub_toInt, br_ltT, br_leT, br_inT, br_nT, br_negT, br_b_0, br_b_1, Int32.toInt_toInt64, pk_lT, br_lnegT, e2] <;> omega)); done)))
        | (refine rs_isChild_F (N := N) ?_ ?_ ?_ ?_; (focus ((first | rfl | assumption | exact fun z => z rfl | omega | (simp (disch := omega) only [not_true_eq_false, not_false_eq_true, br_u_s, br_u_n, br_u_q, nI_eq, nI_clamp, nI_add, pk_mul, br_R17, br_S17, pk_sub_toInt, br_ltT, br_leT, br_inT, br_nT, br_negT, br_b_0, br_b_1, Int32.toInt_toInt64, pk_lT, br_lnegT, e2] <;> omega)); done)); (focus ((first | rfl | assumption | exact fun z => z rfl | omega | (simp (disch := omega) only [not_true_eq_false, not_false_eq_true, br_u_s, br_u_n, br_u_q, nI_eq, nI_clamp, nI_add, pk_mul, br_R17, br_S17, pk_sub_toInt, br_ltT, br_leT, br_inT, br_nT, br_negT, br_b_0, br_b_1, Int32.toInt_toInt64, pk_lT, br_lnegT, e2] <;> omega)); done)); (focus ((first | rfl | assumption | exact fun z => z rfl | omega | (simp (disch := omega) only [not_true_eq_false, not_false_eq_true, br_u_s, br_u_n, br_u_q, nI_eq, nI_clamp, nI_add, pk_mul, br_R17, br_S17, pk_sub_toInt, br_ltT, br_leT, br_inT, br_nT, br_negT, br_b_0, br_b_1, Int32.toInt_toInt64, pk_lT, br_lnegT, e2] <;> omega)); done)))
        | (refine rs_isTest_T ?_ ?_; (focus ((first | rfl | assumption | exact fun z => z rfl | omega | (simp (disch := omega) only [not_true_eq_false, not_false_eq_true, br_u_s, br_u_n, br_u_q, nI_eq, nI_clamp, nI_add, pk_mul, br_R17, br_S17, pk_sub_toInt, br_ltT, br_leT, br_inT, br_nT, br_negT, br_b_0, br_b_1, Int32.toInt_toInt64, pk_lT, br_lnegT, e2] <;> omega)); done)))
        | (refine rs_isTest_F ?_ ?_; (focus ((first | rfl | assumption | exact fun z => z rfl | omega | (simp (disch := omega) only [not_true_eq_false, not_false_eq_true, br_u_s, br_u_n, br_u_q, nI_eq, nI_clamp, nI_add, pk_mul, br_R17, br_S17, pk_sub_toInt, br_ltT, br_leT, br_inT, br_nT, br_negT, br_b_0, br_b_1, Int32.toInt_toInt64, pk_lT, br_lnegT, e2] <;> omega)); done)))
        | (refine rs_no ?_ ?_; (focus ((first | rfl | assumption | exact fun z => z rfl | omega | (simp (disch := omega) only [not_true_eq_false, not_false_eq_true, br_u_s, br_u_n, br_u_q, nI_eq, nI_clamp, nI_add, pk_mul, br_R17, br_S17, pk_sub_toInt, br_ltT, br_leT, br_inT, br_nT, br_negT, br_b_0, br_b_1, Int32.toInt_toInt64, pk_lT, br_lnegT, e2] <;> omega)); done)))
        | (refine rs_pointOf ?_ ?_ ?_; (focus ((first | rfl | assumption | exact fun z => z rfl | omega | (simp (disch := omega) only [not_true_eq_false, not_false_eq_true, br_u_s, br_u_n, br_u_q, nI_eq, nI_clamp, nI_add, pk_mul, br_R17, br_S17, pk_sub_toInt, br_ltT, br_leT, br_inT, br_nT, br_negT, br_b_0, br_b_1, Int32.toInt_toInt64, pk_lT, br_lnegT, e2] <;> omega)); done)); (focus ((first | rfl | assumption | exact fun z => z rfl | omega | (simp (disch := omega) only [not_true_eq_false, not_false_eq_true, br_u_s, br_u_n, br_u_q, nI_eq, nI_clamp, nI_add, pk_mul, br_R17, br_S17, pk_sub_toInt, br_ltT, br_leT, br_inT, br_nT, br_negT, br_b_0, br_b_1, Int32.toInt_toInt64, pk_lT, br_lnegT, e2] <;> omega)); done)))
        | (refine And.intro ?_ ?_; (focus ((first | rfl | assumption | exact fun z => z rfl | omega | (simp (disch := omega) only [not_true_eq_false, not_false_eq_true, br_u_s, br_u_n, br_u_q, nI_eq, nI_clamp, nI_add, pk_mul, br_R17, br_S17, pk_sub_toInt, br_ltT, br_leT, br_inT, br_nT, br_negT, br_b_0, br_b_1, Int32.toInt_toInt64, pk_lT, br_lnegT, e2] <;> omega)); done))))
end
