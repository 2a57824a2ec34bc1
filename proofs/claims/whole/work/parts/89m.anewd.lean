set_option maxRecDepth 100000
set_option maxHeartbeats 4000000
theorem bs_r_mem {r : Nat} {l : List bs_E} {e : bs_E} (h : e ∈ bs_r r l) : e ∈ l ∧ e.1 = r := by
  obtain ⟨h1, h2⟩ := List.mem_filter.mp h
  exact ⟨h1, by simpa using h2⟩
theorem an_wf_s {s t : List bs_E} {e : bs_E} : (an_v (s ++ [e])).map (an_f t) = an_f t e.2.1.toInt :: (an_v s).map (an_f t) := by rw [an_v_s]; rfl
section
variable {d n : Nat} {Q : br_Q} {I J : Nat → Nat → Int32} {L : Nat → Nat → Int64}
theorem rs_S_ch {s : List bs_E} (hk : br_look s I) (hl : s.length ≤ 40) (H : Q (some (.int (nI (an_ch s).toNat))) (br_hp n I L)) : br_r d 111 0 [some (.ref 64)] [] (br_hp n I L) Q := by
  obtain ⟨k1, k2, k3, k4⟩ := hk
  have hn := bs_n_le (w := true) s
  refine rb_Sample_choosesNamed_0 ?_
  rw [k1, k2, pk_mul]
  unfold an_ch at H
  refine ⟨fun h => ?_, fun h => ?_⟩
  · rw [br_ltT, nI_toInt (by omega), nI_toInt (by omega)] at h
    rw [decide_eq_false (by omega)] at H; exact H
  · rw [br_ltT, nI_toInt (by omega), nI_toInt (by omega)] at h
    rw [decide_eq_true (by omega)] at H; exact H
theorem rs_S_worth {l : List bs_E} {r i : Nat} {e : bs_E} (hs : br_sam l I) (hk : br_look (bs_r r l) I) (hb : br_b2 l) (he : l[i]? = some e) (hr : e.1 = r) (H : ∀ v : Nat, v ≤ 400 → (v : Int) = an_f (bs_r r l) e.2.1.toInt → Q (some (.int (nI v))) (br_hp n I L)) : br_r (d + 1) 112 0 [some (.ref 64), some (.int (nI i))] [] (br_hp n I L) Q := by
  have hl := bs_r_len (r := r) l
  have hi : i < l.length := (List.getElem?_eq_some_iff.mp he).1
  obtain ⟨s1, s2, s3⟩ := hs
  obtain ⟨q1, q2, q3⟩ := s3 i e he
  have hem : e ∈ bs_r r l := List.mem_filter.mpr ⟨List.mem_of_getElem? he, by simpa using hr⟩
  have hne : bs_r r l ≠ [] := fun z => by rw [z] at hem; cases hem
  obtain ⟨k5, k6⟩ := hk.2.2.2 hne
  obtain ⟨h1, h2, h3⟩ := an_lohi _ (br_b2_r hb) hne
  have h4 := h1 e hem
  have h5 := br_b2_r hb e hem
  have hf := an_f_b (br_b2_r hb) hem
  have fin : ∀ x : Int32, x.toInt = an_f (bs_r r l) e.2.1.toInt → Q (some (.int x)) (br_hp n I L) := fun x hx => by
    obtain ⟨v, e1, e2⟩ := br_nN (x := x) (by omega)
    have := H v (by omega) (by omega)
    rw [e1]; exact this
  refine rb_Sample_worth_0 (rs_S_ch hk (by omega) (rb_Sample_worth_4 ?_))
  rw [bu_nI0, nI_clamp (by omega), q2, k5, k6]
  refine ⟨fun h => ⟨vp_in_nI (by omega) (by omega), fin _ ?_⟩, fun h => ⟨vp_in_nI (by omega) (by omega), fin _ ?_⟩⟩
  · unfold an_f
    rw [if_neg (by rw [h]; exact Bool.false_ne_true)]
    unfold an_hi at *
    rw [br_subT (by omega) (by omega)]
  · rw [Bool.not_eq_false] at h
    unfold an_f
    rw [if_pos h]
    unfold an_lo at *
    rw [br_subT (by omega) (by omega)]
theorem bs_r_take {l : List bs_E} {r : Nat} : ∀ i, (bs_r r (l.take i)).length ≤ (bs_r r l).length := fun i => by
  have h : bs_r r l = bs_r r (l.take i) ++ bs_r r (l.drop i) := by
    unfold bs_r; rw [← List.filter_append, List.take_append_drop]
  rw [h, List.length_append]; omega
theorem an_tk {l : List bs_E} {r i : Nat} (hb : br_b2 l) {w : Bool} : 0 ≤ an_x (an_f (bs_r r l)) w (bs_r r (l.take i)) ∧ an_x (an_f (bs_r r l)) w (bs_r r (l.take i)) ≤ (400 * (bs_r r (l.take i)).length : Nat) := by
  have h0 : ∀ e, e ∈ bs_r r (l.take i) → 0 ≤ an_f (bs_r r l) e.2.1.toInt ∧ an_f (bs_r r l) e.2.1.toInt ≤ ((400 : Nat) : Int) := fun e he => by
    obtain ⟨h2, h3⟩ := bs_r_mem he
    have h4 : e ∈ bs_r r l := List.mem_filter.mpr ⟨List.mem_of_mem_take h2, by simpa using h3⟩
    exact an_f_b (br_b2_r hb) h4
  have h1 := an_x_b (f := an_f (bs_r r l)) (w := w) (K := 400) (bs_r r (l.take i)) h0
  have h2 := bs_n_le (w := w) (bs_r r (l.take i))
  omega
theorem rs_S_chosen {l : List bs_E} {r : Nat} {z2 z3 : Option Value} (hs : br_sam l I) (hk : br_look (bs_r r l) I) (hb : br_b2 l) (hr : r < 18) (hl : ∀ e, e ∈ l → e.1 < 18) (H : Q (some (.int (nI (an_x (an_f (bs_r r l)) (an_ch (bs_r r l)) (bs_r r l)).toNat))) (br_hp n I L)) :
    br_r (d + 2) 110 0 [some (.ref 64), some (.int (nI r)), z2, z3] [] (br_hp n I L) Q := by
  obtain ⟨s1, s2, s3⟩ := hs
  have hlen := bs_r_len (r := r) l
  have loop : ∀ m i, i + m = l.length → br_r (d + 2) 110 4 [some (.ref 64), some (.int (nI r)), some (.int (nI (an_x (an_f (bs_r r l)) (an_ch (bs_r r l)) (bs_r r (l.take i))).toNat)), some (.int (nI i))] [] (br_hp n I L) Q := by
    intro m
    induction m with
    | zero =>
      intro i hi
      have : i = l.length := by omega
      subst this
      rw [List.take_length]
      exact rb_Sample_worthOfChosen_4 (br_t (by rw [s2]; exact nI_le (Nat.le_refl _) (by omega)) H)
    | succ m ih =>
      intro i hi
      have h1 := ih (i + 1) (by omega)
      obtain ⟨e, he⟩ := bs_get (l := l) (i := i) (by omega)
      obtain ⟨q1, q2, q3⟩ := s3 i e he
      have hem := hl e (List.mem_of_getElem? he)
      rw [bs_take he] at h1
      have tk := an_tk (r := r) (i := i) hb (w := an_ch (bs_r r l))
      have tl := bs_r_len (r := r) (l.take i)
      rw [List.length_take] at tl
      refine rb_Sample_worthOfChosen_4 (br_f (by rw [s2]; exact nI_ge (by omega) (by omega)) ⟨vp_in_nI (by omega) (by omega), ?_⟩)
      rw [nI_clamp (by omega), q1, q3, nI_eq (by omega) (by omega), nI_add]
      refine ⟨fun h => ?_, fun h => ⟨vp_in_nI (by omega) (by omega), rs_S_ch hk (by omega) (rb_Sample_worthOfChosen_32 ⟨fun h2 => ?_, fun h2 => ?_⟩)⟩⟩
      · rw [bs_r_F h] at h1; exact h1
      · have hr2 : e.1 = r := Classical.not_not.mp h
        have hne : ¬ e.2.2 = an_ch (bs_r r l) := fun z => h2 (by rw [z])
        rw [bs_r_T hr2, an_x_F hne] at h1
        rw [nI_add]; exact h1
      · have hr2 : e.1 = r := Classical.not_not.mp h
        have heq : e.2.2 = an_ch (bs_r r l) := by
          have := Classical.not_not.mp h2
          cases ha : e.2.2 <;> cases hc : an_ch (bs_r r l)
          · rfl
          · rw [ha, hc] at this; exact absurd this.symm br_10
          · rw [ha, hc] at this; exact absurd this br_10
          · rfl
        refine rs_S_worth ⟨s1, s2, s3⟩ hk hb he hr2 (fun v hv ev => rb_Sample_worthOfChosen_41 ?_)
        rw [bs_r_T hr2, an_x_T heq, ← ev] at h1
        rw [nI_add, nI_add]
        have e5 : (an_x (an_f (bs_r r l)) (an_ch (bs_r r l)) (bs_r r (l.take i)) + (v : Int)).toNat = (an_x (an_f (bs_r r l)) (an_ch (bs_r r l)) (bs_r r (l.take i))).toNat + v := by omega
        rw [e5] at h1
        exact h1
  exact rb_Sample_worthOfChosen_0 (loop l.length 0 (by omega))
theorem rs_S_offer {l : List bs_E} {r T : Nat} {P : List Int} {z3 z4 z5 : Option Value} (hs : br_sam l I) (hk : br_look (bs_r r l) I) (hb : br_b2 l) (hr : r < 18) (hl : ∀ e, e ∈ l → e.1 < 18) (eT : I 69 2 = nI T) (eW : I 69 3 = nI (T + 1)) (hT : T ≤ 8000) (h0 : aw_row T I L 0 P)
    (H : ∀ (I' : Nat → Nat → Int32) (L' : Nat → Nat → Int64), (∀ p j, p ≠ 71 → I' p j = I p j) → (∀ q j, q ≠ 70 → L' q j = L q j) → aw_row T I' L' 0 (an_o P (br_si ((an_v (bs_r r l)).map (an_f (bs_r r l))) (an_k (bs_r r l)))) → Q none (br_hp n I' L')) :
    br_r (d + 3) 114 0 [some (.ref 64), some (.ref 69), some (.int (nI r)), z3, z4, z5] [] (br_hp n I L) Q := by
  obtain ⟨s1, s2, s3⟩ := hs
  obtain ⟨k1, k2, k3, k4⟩ := hk
  have hlen := bs_r_len (r := r) l
  have hn := bs_n_le (w := true) (bs_r r l)
  refine rb_Sample_offerRoom_0 ?_
  rw [k1, k2, pk_sub hn]
  refine rs_min ?_
  rw [br_minN (by omega) (by omega)]
  have hkk : min (bs_n true (bs_r r l)) ((bs_r r l).length - bs_n true (bs_r r l)) = an_k (bs_r r l) := rfl
  have hk2 : 2 * an_k (bs_r r l) ≤ (bs_r r l).length := by unfold an_k; omega
  rw [hkk]
  generalize hs' : bs_r r l = s at *
  generalize hkd : an_k s = k at *
  refine rb_Sample_offerRoom_16 ?_
  rw [nI_eq (by omega) (by omega)]
  refine ⟨fun hk0 => ?_, fun hk0 => ?_⟩
  · refine rs_open (T := T) eW hT (by omega) (fun I1 L1 hI1 hL1 hr1 => rb_Sample_offerRoom_27 ?_)
    have start0 : aw_row T I1 L1 0 P := by
      obtain ⟨h, a1, a2, a3, a4⟩ := h0
      exact ⟨h, a1, by rw [hI1 71 0 (by omega)]; exact a2, a3, fun x hx h5 => by rw [hL1 70 _ (by omega)]; exact a4 x hx h5⟩
    have loop : ∀ m i (I2 : Nat → Nat → Int32) (L2 : Nat → Nat → Int64), i + m = l.length → (∀ p j, p ≠ 71 → I2 p j = I p j) → (∀ q j, q ≠ 70 → L2 q j = L q j) → (∀ j, j ≤ k → k ≤ j + (s.length - (bs_r r (l.take i)).length) → aw_row T I2 L2 j (an_o P (br_si ((an_v (bs_r r (l.take i))).map (an_f s)) j))) →
        br_r (d + 3) 114 33 [some (.ref 64), some (.ref 69), some (.int (nI r)), some (.int (nI k)), some (.int (nI (bs_r r (l.take i)).length)), some (.int (nI i))] [] (br_hp n I2 L2) Q := by
      intro m
      induction m with
      | zero =>
        intro i I2 L2 hi hI hL hrow
        have : i = l.length := by omega
        subst this
        rw [List.take_length, hs'] at hrow ⊢
        refine rb_Sample_offerRoom_33 (br_t (by rw [hI 64 3 (by omega), s2]; exact nI_le (Nat.le_refl _) (by omega)) (rs_close (T := T) (by rw [hI 69 3 (by omega)]; exact eW) hT (by omega) (by omega) (hrow k (Nat.le_refl _) (by omega)) (fun I3 L3 hI3 hL3 hr3 => rb_Sample_offerRoom_96 (H I3 L3 (fun p j hp => by rw [hI3 p j (by omega)]; exact hI p j hp) (fun q j hq => by rw [hL3 q j hq]; exact hL q j hq) hr3))))
      | succ m ih =>
        intro i I2 L2 hi hI hL hrow
        obtain ⟨e, he⟩ := bs_get (l := l) (i := i) (by omega)
        obtain ⟨q1, q2, q3⟩ := s3 i e he
        have hem := hl e (List.mem_of_getElem? he)
        have nx := fun I2 L2 => ih (i + 1) I2 L2 (by omega)
        rw [bs_take he] at nx
        have tl := bs_r_take (r := r) (l := l) (i + 1)
        rw [hs', bs_take he] at tl
        have hs2 : br_sam l I2 := by
          refine ⟨s1, by rw [hI 64 3 (by omega)]; exact s2, fun i' e' h' => ?_⟩
          obtain ⟨p1, p2, p3⟩ := s3 i' e' h'
          exact ⟨by rw [hI 65 i' (by omega)]; exact p1, by rw [hI 66 i' (by omega)]; exact p2, by rw [hI 67 i' (by omega)]; exact p3⟩
        have hk2' : br_look (bs_r r l) I2 := by
          rw [hs']
          refine ⟨by rw [hI 64 4 (by omega)]; exact k1, by rw [hI 64 5 (by omega)]; exact k2, by rw [hI 64 6 (by omega)]; exact k3, fun h => ?_⟩
          rw [hI 64 7 (by omega), hI 64 8 (by omega)]; exact k4 h
        refine rb_Sample_offerRoom_33 (br_f (by rw [hI 64 3 (by omega), s2]; exact nI_ge (by omega) (by omega)) ⟨vp_in_nI (by omega) (by omega), ?_⟩)
        rw [nI_clamp (by omega), hI 65 i (by omega), q1, nI_eq (by omega) (by omega), nI_add]
        refine ⟨fun h => rb_Sample_offerRoom_85 ?_, fun h => ?_⟩
        · rw [bs_r_F h] at nx
          rw [nI_add]
          exact nx I2 L2 hI hL hrow
        · have hr2 : e.1 = r := Classical.not_not.mp h
          rw [bs_r_T hr2] at nx tl
          rw [List.length_append] at nx tl
          have l1 : [e].length = 1 := rfl
          rw [l1] at nx tl
          generalize hq : bs_r r (l.take i) = sq at *
          refine rs_S_worth hs2 hk2' hb he hr2 (fun v hv ev => rb_Sample_offerRoom_63 ?_)
          rw [hs'] at ev
          rw [hI 64 4 (by omega), k1, pk_sub tl]
          have elo : br_max (nI 1) (nI k - nI (s.length - (sq.length + 1))) = nI (max 1 (k - (s.length - (sq.length + 1)))) := by
            have e1 : (nI k - nI (s.length - (sq.length + 1))).toInt = (k : Int) - ((s.length - (sq.length + 1) : Nat) : Int) := pk_sub_toInt (by omega) (by omega)
            rw [br_eqT, br_maxT, e1, nI_toInt (by omega), nI_toInt (by omega)]
            omega
          refine rs_max ?_
          rw [elo]
          refine rb_Sample_offerRoom_76 (rs_min ?_)
          rw [br_minN (by omega) (by omega)]
          refine rb_Sample_offerRoom_82 (rs_offer (T := T) (S := fun j => an_o P (br_si ((an_v sq).map (an_f s)) j)) (by rw [hI 69 2 (by omega)]; exact eT) (by rw [hI 69 3 (by omega)]; exact eW) hT hv (by omega) (by omega) (by omega) (fun j h1 h2 => hrow j (by omega) (by omega)) (fun I3 L3 hI3 hL3 hr3 => rb_Sample_offerRoom_85 ?_))
          rw [nI_add]
          refine nx I3 L3 (fun p j hp => by rw [hI3 p j (by omega)]; exact hI p j hp) (fun q j hq => by rw [hL3 q j (by omega)]; exact hL q j hq) (fun j h1 h2 => ?_)
          rw [an_wf_s, ← ev]
          cases j with
          | zero =>
            rw [an_si0]
            have := hrow 0 (by omega) (by omega)
            rw [an_si0] at this
            obtain ⟨h, a1, a2, a3, a4⟩ := this
            have w1 : 1 * (T + 1) ≤ max 1 (k - (s.length - (sq.length + 1))) * (T + 1) := aw_le (by omega)
            exact ⟨h, a1, by rw [hI3 71 0 (by omega)]; exact a2, a3, fun x hx h5 => by rw [hL3 70 _ (by omega)]; exact a4 x hx h5⟩
          | succ j =>
            rw [an_st]
            by_cases h3 : j + 1 ≤ sq.length + 1
            · exact hr3 (j + 1) (by omega) (by omega)
            · have vl : ((an_v sq).map (an_f s)).length = sq.length := by rw [List.length_map, an_v_len]
              rw [br_si_big _ (j + 1) (by omega), br_si_big _ j (by omega)]
              have := hrow (j + 1) (by omega) (by omega)
              rw [br_si_big _ (j + 1) (by omega)] at this
              obtain ⟨h, a1, a2, a3, a4⟩ := this
              have w1 : (min k (sq.length + 1) + 1) * (T + 1) ≤ (j + 1) * (T + 1) := aw_le (by omega)
              exact ⟨h, a1, by rw [hI3 71 _ (by omega)]; exact a2, fun a ha => (by cases ha), fun x hx h5 => by rw [hL3 70 _ (by omega)]; exact a4 x hx h5⟩
    have l0 := loop l.length 0 I1 L1 (by omega) (fun p j hp => hI1 p j (by omega)) (fun q j hq => hL1 q j (by omega)) (fun j h1 h2 => ?_)
    · exact l0
    · show aw_row T I1 L1 j (an_o P (br_si [] j))
      cases j with
      | zero => rw [an_si0]; exact start0
      | succ j => exact hr1 (j + 1) (by omega) h1
  · have hk00 : k = 0 := Classical.not_not.mp hk0
    refine H I L (fun _ _ _ => rfl) (fun _ _ _ => rfl) ?_
    rw [hk00, an_si0]
    exact h0
/-- the class's fraction of a sample dealt anew -/
theorem rs_S_anew {l : List bs_E} {p : Nat} {z3 z4 : Option Value} (hs : br_sam l I) (hb : br_b2 l) (hl : ∀ e, e ∈ l → e.1 < 18) (hp : br_S0 n p = (0, 1)) (hp2 : p ≠ 70)
    (H : ∀ (I' : Nat → Nat → Int32) (L' : Nat → Nat → Int64), (∀ p j, ¬ ((p = 64 ∧ 4 ≤ j ∧ j ≤ 8) ∨ p = 69 ∨ p = 71) → I' p j = I p j) → (∀ q j, q ≠ 70 → ¬ (q = p ∧ (j = 0 ∨ j = 1)) → L' q j = L q j) → L' p 0 = an_u l → L' p 1 = an_l l → Q none (br_hp n I' L')) :
    br_r (d + 4) 106 0 [some (.ref 64), some (.ref p), some (.ref 69), z3, z4] [] (br_hp n I L) Q := by
  have s1 := hs.1
  have hRb := an_R_b hb
  have hnl := an_n_len l
  refine rb_Sample_dealtAnew_0 ⟨hp, rs_clearF hp (rb_Sample_dealtAnew_4 (rs_S_split hs (rb_Sample_dealtAnew_8 ?_)))⟩
  by_cases hsp : an_sp l
  · have hsp' : 0 < bs_n true l ∧ 0 < bs_n false l := hsp
    rw [bu_dT hsp']
    refine br_t br_10 ?_
    generalize hL0 : br_u (br_u L p 0 (lN 0)) p 1 (lN 0) = L0
    have frL0 : ∀ q j, ¬ (q = p ∧ (j = 0 ∨ j = 1)) → L0 q j = L q j := fun q j hq => by rw [← hL0, br_u_n (by omega), br_u_n (by omega)]
    have sam : ∀ I' : Nat → Nat → Int32, (∀ p j, ¬ ((p = 64 ∧ 4 ≤ j ∧ j ≤ 8) ∨ p = 69 ∨ p = 71) → I' p j = I p j) → br_sam l I' := fun I' h => by
      refine ⟨s1, by rw [h 64 3 (by omega)]; exact hs.2.1, fun i' e' h' => ?_⟩
      obtain ⟨p1, p2, p3⟩ := hs.2.2 i' e' h'
      exact ⟨by rw [h 65 i' (by omega)]; exact p1, by rw [h 66 i' (by omega)]; exact p2, by rw [h 67 i' (by omega)]; exact p3⟩
    have hR18 := hRb 18
    have hn18 := hnl 18
    generalize hTd : (an_R l 18).toNat = T at *
    have hT : T ≤ 8000 := by omega
    have tB := an_B_le (l := l) s1
    -- rooms are offered
    have second : ∀ m r (I' : Nat → Nat → Int32) (L' : Nat → Nat → Int64) (z3 : Option Value), r + m = 18 → (∀ p j, ¬ ((p = 64 ∧ 4 ≤ j ∧ j ≤ 8) ∨ p = 69 ∨ p = 71) → I' p j = I p j) → (∀ q j, q ≠ 70 → L' q j = L0 q j) → I' 69 2 = nI T → I' 69 3 = nI (T + 1) → aw_row T I' L' 0 (an_P l r) →
        br_r (d + 4) 106 53 [some (.ref 64), some (.ref p), some (.ref 69), z3, some (.int (nI r))] [] (br_hp n I' L') Q := by
      intro m
      induction m with
      | zero =>
        intro r I' L' z3 hr hI hL eT eW hrow
        have : r = 18 := by omega
        subst this
        obtain ⟨h, a1, a2, a3, a4⟩ := hrow
        obtain ⟨c1, c2⟩ := an_class l
        refine rb_Sample_dealtAnew_53 (br_t (nI_le (b := 18) (Nat.le_refl _) (by omega)) ?_)
        have e0 : ∀ x, 0 * (T + 1) + x = x := fun x => by omega
        -- all ways
        have all : ∀ Q' : br_Q, Q' (some (.long (lN (an_B l)))) (br_hp n I' L') → br_r (d + 3) 122 0 [some (.ref 69), none, none, none] [] (br_hp n I' L') Q' := by
          intro Q' K
          have loop : ∀ m y, y + m = h → br_r (d + 3) 122 4 [some (.ref 69), some (.long (lN ((an_P l 18).countP (fun a => true && decide (min a (T : Int) < (y : Int)))))), none, some (.int (nI y))] [] (br_hp n I' L') Q' := by
            intro m
            induction m with
            | zero =>
              intro y hy
              have : y = h := by omega
              subst this
              refine rb_Ways_all_4 (br_t (by rw [br_ltT, a2, nI_toInt (by omega)]; omega) ?_)
              have e : (an_P l 18).countP (fun a => true && decide (min a (T : Int) < (y : Int))) = an_B l := by
                rw [← c2, ← List.countP_true]
                refine an_cc (fun a ha => ?_)
                have := a3 a ha
                simp only [Bool.and_eq_true, decide_eq_true_eq, true_and, iff_true]; omega
              rw [e]; exact K
            | succ m ih =>
              intro y hy
              have h1 := ih (y + 1) (by omega)
              have e : (an_P l 18).countP (fun a => true && decide (min a (T : Int) < ((y + 1 : Nat) : Int))) = _ := an_cs (fun a => true) (fun a => min a (T : Int)) (y : Int) (an_P l 18)
              have e2 : (an_P l 18).countP (fun a => true && decide (min a (T : Int) = (y : Int))) = (an_P l 18).countP (fun a => decide (min a (T : Int) = (y : Int))) := rfl
              have e3 := a4 y (by omega) (Or.inl (by omega))
              rw [e0] at e3
              refine rb_Ways_all_4 (br_f (by rw [br_ltT, a2, nI_toInt (by omega)]; omega) ⟨vp_in_nI (by omega) (by omega), ?_⟩)
              rw [nI_clamp (by omega), e3, lN_add, nI_add]
              rw [e, e2] at h1
              exact h1
          have l0 := loop h 0 (by omega)
          have e4 : (an_P l 18).countP (fun a => true && decide (min a (T : Int) < ((0 : Nat) : Int))) = 0 := by
            refine an_c0 (fun a ha => ?_)
            have := a3 a ha
            simp only [Bool.and_eq_true, decide_eq_true_eq]; omega
          rw [e4] at l0
          exact rb_Ways_all_0 l0
        -- those that reach
        have reach : ∀ Q' : br_Q, Q' (some (.long (lN (an_A l)))) (br_hp n I' L') → br_r (d + 3) 121 0 [some (.ref 69)] [] (br_hp n I' L') Q' := by
          intro Q' K
          refine rb_Ways_reaching_0 ?_
          rw [eT, br_eqT, a2, nI_toInt (by omega), nI_clamp (by omega)]
          refine ⟨fun h5 => ?_, fun h5 => ⟨vp_in_nI (by omega) (by omega), ?_⟩⟩
          · have e : an_A l = 0 := by
              rw [← c1]
              refine an_c0 (fun a ha => ?_)
              have := a3 a ha
              simp only [decide_eq_true_eq]; omega
            rw [e] at K; exact K
          · have e3 := a4 T (Nat.le_refl _) (Or.inl (by omega))
            rw [e0] at e3
            have e : (an_P l 18).countP (fun a => decide (min a (T : Int) = (T : Int))) = an_A l := by
              rw [← c1]
              refine an_cc (fun a ha => ?_)
              simp only [decide_eq_true_eq]; omega
            rw [e3, e]; exact K
        refine reach _ (rb_Sample_dealtAnew_84 (all _ (rb_Sample_dealtAnew_88 ⟨hp, rs_become hp ?_ (rb_Sample_dealtAnew_91 (H I' _ hI (fun q j h1 h2 => ?_) ?_ ?_))⟩)))
        · rw [pk_lT (by omega)]; omega
        · rw [br_u_n (by omega), br_u_n (by omega), hL q j h1, frL0 q j h2]
        · rw [br_u_n (by omega), br_u_s, an_u_T hsp]
        · rw [br_u_s, an_l_T hsp]
      | succ m ih =>
        intro r I' L' z3 hr hI hL eT eW hrow
        refine rb_Sample_dealtAnew_53 (br_f (nI_ge (b := 18) (by omega) (by omega)) (rs_S_lookAt (sam I' hI) (by omega) hl (fun I2 hI2 hk2 => rb_Sample_dealtAnew_66 ?_)))
        have fr2 : ∀ p j, ¬ ((p = 64 ∧ 4 ≤ j ∧ j ≤ 8) ∨ p = 69 ∨ p = 71) → I2 p j = I p j := fun p j hp => by rw [hI2 p j (by omega)]; exact hI p j hp
        refine rs_S_offer (T := T) (P := an_P l r) (sam I2 fr2) hk2 hb (by omega) hl (by rw [hI2 69 2 (by omega)]; exact eT) (by rw [hI2 69 3 (by omega)]; exact eW) hT ?_ (fun I3 L3 hI3 hL3 hr3 => rb_Sample_dealtAnew_73 ?_)
        · obtain ⟨h, a1, a2, a3, a4⟩ := hrow
          exact ⟨h, a1, by rw [hI2 71 0 (by omega)]; exact a2, a3, a4⟩
        · rw [nI_add]
          exact ih (r + 1) I3 L3 _ (by omega) (fun p j hp => by rw [hI3 p j (by omega)]; exact fr2 p j hp) (fun q j hq => by rw [hL3 q j hq]; exact hL q j hq) (by rw [hI3 69 2 (by omega), hI2 69 2 (by omega)]; exact eT) (by rw [hI3 69 3 (by omega), hI2 69 3 (by omega)]; exact eW) hr3
    -- what is reached
    have first : ∀ m r (I' : Nat → Nat → Int32), r + m = 18 → (∀ p j, ¬ ((p = 64 ∧ 4 ≤ j ∧ j ≤ 8) ∨ p = 69 ∨ p = 71) → I' p j = I p j) →
        br_r (d + 4) 106 17 [some (.ref 64), some (.ref p), some (.ref 69), some (.int (nI (an_R l r).toNat)), some (.int (nI r))] [] (br_hp n I' L0) Q := by
      intro m
      induction m with
      | zero =>
        intro r I' hr hI
        have : r = 18 := by omega
        subst this
        rw [hTd]
        refine rb_Sample_dealtAnew_17 (br_t (nI_le (b := 18) (Nat.le_refl _) (by omega)) (rb_Ways_begin_0 (rs_min ?_)))
        rw [br_minN (by omega) (by omega), show min T 8000 = T by omega]
        refine rb_Ways_begin_9 (rs_max ?_)
        rw [br_maxN (by omega) (by omega), show max 0 T = T by omega]
        refine rb_Ways_begin_12 (rb_Sample_dealtAnew_50 ?_)
        rw [br_u_s, nI_add]
        refine second 18 0 _ _ _ (by omega) (fun p j hp => by rw [br_u_n (by omega), br_u_n (by omega), br_u_n (by omega)]; exact hI p j hp) (fun q j hq => br_u_n (by omega)) (by rw [br_u_n (by omega), br_u_n (by omega), br_u_s]) (by rw [br_u_n (by omega), br_u_s]) ⟨1, by omega, by rw [br_u_s, nI_toInt (by omega)]; omega, fun a ha => ?_, fun x hx h5 => ?_⟩
        · have : a = 0 := List.mem_singleton.mp ha
          omega
        · have : x = 0 := by omega
          subst this
          rw [br_u_e rfl (by omega)]
          show lN 1 = lN ([(0 : Int)].countP _)
          have e : [(0 : Int)].countP (fun a => decide (min a (T : Int) = ((0 : Nat) : Int))) = [(0 : Int)].countP (fun _ => true) := by
            refine an_cc (fun a ha => ?_)
            have : a = 0 := List.mem_singleton.mp ha
            simp only [decide_eq_true_eq, iff_true]; omega
          rw [e]; rfl
      | succ m ih =>
        intro r I' hr hI
        have b1 := hRb r
        have b2 := hRb (r + 1)
        have b3 := hnl r
        have b4 := hnl (r + 1)
        have b5 := an_x_b (f := an_f (bs_r r l)) (w := an_ch (bs_r r l)) (K := 400) (bs_r r l) (fun e he => an_f_b (br_b2_r hb) he)
        have b6 := bs_n_le (w := an_ch (bs_r r l)) (bs_r r l)
        have b7 := bs_r_len (r := r) l
        refine rb_Sample_dealtAnew_17 (br_f (nI_ge (b := 18) (by omega) (by omega)) (rs_S_lookAt (sam I' hI) (by omega) hl (fun I2 hI2 hk2 => rb_Sample_dealtAnew_30 ?_)))
        have fr2 : ∀ p j, ¬ ((p = 64 ∧ 4 ≤ j ∧ j ≤ 8) ∨ p = 69 ∨ p = 71) → I2 p j = I p j := fun p j hp => by rw [hI2 p j (by omega)]; exact hI p j hp
        refine rs_S_chosen (sam I2 fr2) hk2 hb (by omega) hl (rb_Sample_dealtAnew_37 ?_)
        rw [nI_add, nI_add]
        have nx := ih (r + 1) I2 (by omega) fr2
        have e5 : (an_R l (r + 1)).toNat = (an_R l r).toNat + (an_x (an_f (bs_r r l)) (an_ch (bs_r r l)) (bs_r r l)).toNat := by
          show (an_R l r + an_x (an_f (bs_r r l)) (an_ch (bs_r r l)) (bs_r r l)).toNat = _
          omega
        rw [e5] at nx
        exact nx
    exact first 18 0 I (by omega) (fun _ _ _ => rfl)
  · have hsp' : ¬ (0 < bs_n true l ∧ 0 < bs_n false l) := hsp
    rw [bu_dF hsp']
    refine br_f (fun z => z rfl) (H I _ (fun _ _ _ => rfl) (fun q j h1 h2 => ?_) ?_ ?_)
    · rw [br_u_n (by omega), br_u_n (by omega)]
    · rw [br_u_n (by omega), br_u_s, an_u_F hsp]
    · rw [br_u_s, an_l_F hsp]
end
