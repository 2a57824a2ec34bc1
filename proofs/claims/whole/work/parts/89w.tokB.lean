set_option maxRecDepth 100000
set_option maxHeartbeats 4000000
/-! the class keeps the tokens, and looks at them in turn -/
def tk_R (l : List tk_T) (I : Nat → Nat → Int32) : Prop := ∀ j t, l[j]? = some t → I 57 j = nI t.1 ∧ I 58 j = nI t.2.1 ∧ I 59 j = nI t.2.2
section
variable {d n : Nat} {Q : br_Q} {I J : Nat → Nat → Int32} {L : Nat → Nat → Int64}
theorem tk_R_c {l : List tk_T} (h : tk_R l I) (h2 : ∀ p j, 57 ≤ p → p ≤ 59 → J p j = I p j) : tk_R l J := fun j t ht => by
  obtain ⟨a, b, c⟩ := h j t ht
  exact ⟨by rw [h2 57 j (by omega) (by omega)]; exact a, by rw [h2 58 j (by omega) (by omega)]; exact b, by rw [h2 59 j (by omega) (by omega)]; exact c⟩
theorem tk_R_s {l : List tk_T} {t : tk_T} (h : tk_R l I) (h2 : ∀ p j, 57 ≤ p → p ≤ 59 → j < l.length → J p j = I p j) (h3 : J 57 l.length = nI t.1 ∧ J 58 l.length = nI t.2.1 ∧ J 59 l.length = nI t.2.2) : tk_R (l ++ [t]) J := fun j u hu => by
  by_cases hj : j < l.length
  · rw [List.getElem?_append_left hj] at hu
    obtain ⟨a, b, c⟩ := h j u hu
    exact ⟨by rw [h2 57 j (by omega) (by omega) hj]; exact a, by rw [h2 58 j (by omega) (by omega) hj]; exact b, by rw [h2 59 j (by omega) (by omega) hj]; exact c⟩
  · have h5 : j < (l ++ [t]).length := (List.getElem?_eq_some_iff.mp hu).1
    rw [List.length_append] at h5
    have l1 : [t].length = 1 := rfl
    have h6 : j = l.length := by omega
    subst h6
    rw [List.getElem?_append_right (Nat.le_refl _), Nat.sub_self] at hu
    have : t = u := Option.some.inj hu
    rw [← this]; exact h3
theorem tk_end_at {b : Nat → Nat} {N p : Nat} : tk_end b N p = (tk_at b N p).2 := by
  unfold tk_end
  by_cases h : tk_lt (b p) = true
  · have hd : ¬ tk_dg (b p) = true := fun z => by
      have h1 := of_decide_eq_true h
      have h2 := of_decide_eq_true z
      omega
    rw [if_neg hd, if_pos h, tk_at_L h]
  · by_cases h2 : tk_dg (b p) = true
    · rw [if_pos h2]
      by_cases h3 : tk_e b N tk_dg N (p + 1) - p ≤ 3
      · rw [tk_at_D h h2 h3]
      · rw [tk_at_B h h2 h3]
    · rw [if_neg h2, if_neg h, tk_at_S h h2]
theorem rs_T_keep {b : Nat → Nat} {N p : Nat} {l : List tk_T} (ho : br_odx I) (h : tk_A b N I) (hp : p < N) (h5 : I 55 5 = nI l.length) (hl : l.length < 400) (hr : tk_R l I)
    (H : ∀ J : Nat → Nat → Int32, (∀ q j, ¬ (q = 55 ∧ j = 5) → ¬ (57 ≤ q ∧ q ≤ 59) → J q j = I q j) → J 55 5 = nI (l ++ [(tk_at b N p).1]).length → tk_R (l ++ [(tk_at b N p).1]) J → Q none (br_hp n J L)) :
    br_r (d + 8) 47 0 [some (.ref 55), some (.int (nI p)), some (.int (nI (tk_at b N p).2))] [] (br_hp n I L) Q := by
  have hN := h.1
  have hbp := h.2 p hp
  obtain ⟨t1, t2, t3, t4⟩ := tk_at_b (b := b) hp
  have el : (l ++ [(tk_at b N p).1]).length = l.length + 1 := by rw [List.length_append]; rfl
  generalize hI0 : br_u (br_u I 58 l.length (nI p)) 59 l.length (nI 0) = I0
  have f0 : ∀ q j, ¬ (q = 58 ∧ j = l.length) → ¬ (q = 59 ∧ j = l.length) → I0 q j = I q j := fun q j a c => by rw [← hI0, br_u_n c, br_u_n a]
  have h0 : tk_A b N I0 := tk_A_c h (fun j => f0 56 j (by omega) (by omega))
  have ho0 : br_odx I0 := br_odx_c ho (fun q j hq => f0 q j (by omega) (by omega))
  have p58 : I0 58 l.length = nI p := by rw [← hI0, br_u_n (by omega), br_u_s]
  have p59 : I0 59 l.length = nI 0 := by rw [← hI0, br_u_s]
  have i5 : I0 55 5 = nI l.length := by rw [f0 55 5 (by omega) (by omega)]; exact h5
  -- what is kept
  have fin : ∀ (J : Nat → Nat → Int32) (k v : Nat), (tk_at b N p).1 = (k, p, v) → (∀ q j, ¬ (q = 57 ∧ j = l.length) → ¬ (q = 59 ∧ j = l.length) → J q j = I0 q j) → J 57 l.length = nI k → J 59 l.length = nI v → Q none (br_hp n (br_u J 55 5 (J 55 5 + nI 1)) L) := by
    intro J k v e q1 q2 q3
    have j5 : J 55 5 = nI l.length := by rw [q1 55 5 (by omega) (by omega)]; exact i5
    refine H _ (fun q j a c => ?_) ?_ (tk_R_s hr (fun q j a c e9 => ?_) ?_)
    · rw [br_u_n (by omega), q1 q j (by omega) (by omega), f0 q j (by omega) (by omega)]
    · rw [br_u_s, j5, nI_add, el]
    · rw [br_u_n (by omega), q1 q j (by omega) (by omega), f0 q j (by omega) (by omega)]
    · rw [e]
      exact ⟨by rw [br_u_n (by omega)]; exact q2, by rw [br_u_n (by omega), q1 58 _ (by omega) (by omega)]; exact p58, by rw [br_u_n (by omega)]; exact q3⟩
  refine rb_Tokens_keepToken_0 ?_
  rw [br_u_n (by omega), h5, nI_clamp (by omega), hI0]
  refine br_t (nI_lt (b := 400) hl (by omega)) ⟨vp_in_nI hl (by omega), vp_in_nI hl (by omega), rs_T_sign h0 hp (rb_Tokens_keepToken_36 (rs_T_letter hbp.1 (rb_Tokens_keepToken_39 ?_)))⟩
  rw [bu_nI0, i5]
  refine ⟨fun hlt => rs_T_sign h0 hp (rb_Tokens_keepToken_65 (rs_T_digit hbp.1 (rb_Tokens_keepToken_68 ?_))), fun hlt => ?_⟩
  · have hlt' : ¬ tk_lt (b p) = true := by rw [hlt]; exact Bool.false_ne_true
    rw [bu_nI0, i5, nI_clamp (by omega)]
    refine ⟨fun hdg => ?_, fun hdg => ?_⟩
    · rw [Bool.not_eq_false] at hdg
      rw [pk_sub (by omega), nI_leI (by omega) (by omega)]
      have he : (tk_at b N p).2 = tk_e b N tk_dg N (p + 1) := by rw [← tk_end_at]; unfold tk_end; rw [if_pos hdg]
      refine ⟨fun h3 => ⟨vp_in_nI hl (by omega), ?_⟩, fun h3 => ⟨vp_in_nI hl (by omega), ?_⟩⟩
      · rw [he] at h3 t2 t3 ⊢
        have eat := tk_at_D hlt' hdg h3
        have hN2 : p + (tk_e b N tk_dg N (p + 1) - p) ≤ N := by omega
        rw [show tk_e b N tk_dg N (p + 1) = p + (tk_e b N tk_dg N (p + 1) - p) by omega]
        refine rs_T_num (tk_A_c h0 (fun j => br_u_n (by omega))) hN2 h3 (fun j h4 h6 => ?_) (rb_Tokens_keepToken_137 ?_)
        · by_cases e : j = p
          · rw [e]; exact hdg
          · exact tk_e_q (n := N) N (p + 1) j (by omega) (by omega)
        · rw [br_u_n (by omega), i5, nI_clamp (by omega)]
          refine ⟨vp_in_nI hl (by omega), fin _ 41 _ (by rw [eat]) (fun q j a c => by rw [br_u_n c, br_u_n a]) ?_ ?_⟩
          · rw [br_u_n (by omega), br_u_s]
          · rw [br_u_s]
      · rw [he] at h3
        have eat := tk_at_B hlt' hdg h3
        exact fin _ 43 0 (by rw [eat]) (fun q j a c => br_u_n a) br_u_s (by rw [br_u_n (by omega)]; exact p59)
    · have hdg' : ¬ tk_dg (b p) = true := by rw [Classical.not_not.mp hdg]; exact Bool.false_ne_true
      have eat := tk_at_S (n := N) hlt' hdg'
      refine rs_T_sign h0 hp (rb_Tokens_keepToken_84 ?_)
      have c40 : nI (b p) = nI 40 ↔ b p = 40 := nI_eq (by omega) (by omega)
      have c41 : nI (b p) = nI 41 ↔ b p = 41 := nI_eq (by omega) (by omega)
      have c45 : nI (b p) = nI 45 ↔ b p = 45 := nI_eq (by omega) (by omega)
      have c59 : nI (b p) = nI 59 ↔ b p = 59 := nI_eq (by omega) (by omega)
      have out : ∀ k, k = tk_sg (b p) → br_r (d + 8) 47 87 [some (.ref 55), some (.int (nI p)), some (.int (nI (tk_at b N p).2))] [.int (nI k), .int (nI l.length), .ref 57] (br_hp n I0 L) Q := by
        intro k hk
        refine rb_Tokens_keepToken_87 ?_
        rw [nI_clamp (by omega)]
        exact ⟨vp_in_nI hl (by omega), fin _ k 0 (by rw [eat, hk]) (fun q j a c => br_u_n a) br_u_s (by rw [br_u_n (by omega)]; exact p59)⟩
      refine rb_Tokens_signKind_0 ?_
      rw [c40, c41, c45, c59]
      refine ⟨fun q => out _ ?_, fun q => ⟨fun q2 => out _ ?_, fun q2 => ⟨fun q3 => out _ ?_, fun q3 => ⟨fun q4 => out _ ?_, fun q4 => out _ ?_⟩⟩⟩⟩
      · unfold tk_sg; rw [if_pos q]
      · unfold tk_sg; rw [if_neg q, if_pos q2]
      · unfold tk_sg; rw [if_neg q, if_neg q2, if_pos q3]
      · unfold tk_sg; rw [if_neg q, if_neg q2, if_neg q3, if_pos q4]
      · unfold tk_sg; rw [if_neg q, if_neg q2, if_neg q3, if_neg q4]
  · rw [Bool.not_eq_false] at hlt
    have eat := tk_at_L (n := N) hlt
    have he : (tk_at b N p).2 = tk_e b N tk_lt N (p + 1) := by rw [eat]
    rw [he] at t2 t3 ⊢
    rw [show tk_e b N tk_lt N (p + 1) = p + (tk_e b N tk_lt N (p + 1) - p) by omega]
    refine rs_T_word (d := d + 1) ho0 h0 (by omega) (rb_Tokens_keepToken_56 ?_)
    rw [nI_clamp (by omega)]
    exact ⟨vp_in_nI hl (by omega), fin _ _ 0 (by rw [eat]) (fun q j a c => br_u_n a) br_u_s (by rw [br_u_n (by omega)]; exact p59)⟩
/-- where the class stands: the tokens from place j on, the first one looked at -/
def tk_C (T : List tk_T) (N : Nat) (ts : List tk_T) (J : Nat → Nat → Int32) : Prop := tk_R T J ∧ T.length ≤ 400 ∧ N ≤ 400 ∧ J 55 5 = nI T.length ∧ J 55 6 = nI N ∧ (∃ j, j ≤ T.length ∧ T.drop j = ts ∧ J 55 7 = nI j) ∧ J 55 8 = nI (tk_hd N ts).1 ∧ J 55 9 = nI (tk_hd N ts).2.1 ∧ J 55 10 = nI (tk_hd N ts).2.2
theorem tk_C_c {T ts : List tk_T} {N : Nat} (h : tk_C T N ts I) (h2 : ∀ p j, (57 ≤ p ∧ p ≤ 59 ∨ p = 55) → J p j = I p j) : tk_C T N ts J := by
  obtain ⟨a1, a2, a3, a4, a5, ⟨j, a6, a7, a8⟩, a9, a10, a11⟩ := h
  exact ⟨tk_R_c a1 (fun p j q1 q2 => h2 p j (by omega)), a2, a3, by rw [h2 55 5 (by omega)]; exact a4, by rw [h2 55 6 (by omega)]; exact a5, ⟨j, a6, a7, by rw [h2 55 7 (by omega)]; exact a8⟩, by rw [h2 55 8 (by omega)]; exact a9, by rw [h2 55 9 (by omega)]; exact a10, by rw [h2 55 10 (by omega)]; exact a11⟩
theorem rs_T_adv0 {T : List tk_T} {N j : Nat} {x : Int32} {z1 : Option Value} (hR : tk_R T I) (hT : T.length ≤ 400) (hN : N ≤ 400) (h5 : I 55 5 = nI T.length) (h6 : I 55 6 = nI N) (h7 : I 55 7 = x) (hx : x + nI 1 = nI j) (hj : j ≤ T.length)
    (H : ∀ J : Nat → Nat → Int32, (∀ p j, ¬ (p = 55 ∧ 7 ≤ j ∧ j ≤ 10) → J p j = I p j) → tk_C T N (T.drop j) J → Q none (br_hp n J L)) :
    br_r d 62 0 [some (.ref 55), z1] [] (br_hp n I L) Q := by
  refine rb_Tokens_advance_0 ?_
  rw [h7, hx]
  generalize hI1 : br_u I 55 7 (nI j) = I1
  have f1 : ∀ p i, ¬ (p = 55 ∧ i = 7) → I1 p i = I p i := fun p i a => by rw [← hI1]; exact br_u_n a
  have i7 : I1 55 7 = nI j := by rw [← hI1]; exact br_u_s
  have i5 : I1 55 5 = nI T.length := by rw [f1 55 5 (by omega)]; exact h5
  have e7 : ∀ k x, k ≠ 7 → br_u I1 55 k x 55 7 = nI j := fun k x hk => by rw [br_u_n (by omega)]; exact i7
  rw [i7, i5]
  refine br_f (nI_pos (by omega)) ?_
  rw [nI_leI (by omega) (by omega)]
  refine ⟨fun h => rb_Tokens_advance_42 (H _ (fun p i hp => ?_) ?_), fun h => br_f (nI_ge (b := 400) (by omega) (by omega)) ?_⟩
  · rw [br_u_n (by omega), br_u_n (by omega), br_u_n (by omega), f1 p i (by omega)]
  · have hjT : j = T.length := by omega
    subst hjT
    rw [List.drop_length]
    refine ⟨tk_R_c hR (fun p i q1 q2 => by rw [br_u_n (by omega), br_u_n (by omega), br_u_n (by omega), f1 p i (by omega)]), hT, hN, ?_, ?_, ⟨T.length, Nat.le_refl _, List.drop_length, ?_⟩, ?_, ?_, ?_⟩
    · rw [br_u_n (by omega), br_u_n (by omega), br_u_n (by omega)]; exact i5
    · rw [br_u_n (by omega), br_u_n (by omega), br_u_n (by omega), f1 55 6 (by omega)]; exact h6
    · rw [br_u_n (by omega), br_u_n (by omega), br_u_n (by omega)]; exact i7
    · rw [br_u_n (by omega), br_u_n (by omega), br_u_s]; rfl
    · rw [br_u_n (by omega), br_u_s, br_u_n (by omega), f1 55 6 (by omega)]; exact h6
    · rw [br_u_s]; rfl
  · have hjT : j < T.length := by omega
    obtain ⟨q1, q2, q3⟩ := hR j T[j] (List.getElem?_eq_getElem hjT)
    have hdr : T.drop j = T[j] :: T.drop (j + 1) := List.drop_eq_getElem_cons hjT
    have hh : tk_hd N (T.drop j) = T[j] := by rw [hdr]; rfl
    simp (disch := omega) only [br_u_n, br_u_s, i7, nI_clamp, f1, q1, q2, q3]
    refine ⟨vp_in_nI (by omega) (by omega), vp_in_nI (by omega) (by omega), vp_in_nI (by omega) (by omega), H _ (fun p i hp => ?_) ?_⟩
    · simp (disch := omega) only [br_u_n, f1]
    · refine ⟨tk_R_c hR (fun p i q1 q2 => by simp (disch := omega) only [br_u_n, f1]), hT, hN, ?_, ?_, ⟨j, hj, rfl, ?_⟩, ?_, ?_, ?_⟩
      · simp (disch := omega) only [br_u_n, i5]
      · simp (disch := omega) only [br_u_n, f1, h6]
      · simp (disch := omega) only [br_u_n, i7]
      · rw [hh]; simp (disch := omega) only [br_u_n, br_u_s]
      · rw [hh]; simp (disch := omega) only [br_u_n, br_u_s]
      · rw [hh]; simp (disch := omega) only [br_u_n, br_u_s]
theorem rs_T_adv {T : List tk_T} {N : Nat} {t : tk_T} {ts : List tk_T} {z1 : Option Value} (h : tk_C T N (t :: ts) I)
    (H : ∀ J : Nat → Nat → Int32, (∀ p j, ¬ (p = 55 ∧ 7 ≤ j ∧ j ≤ 10) → J p j = I p j) → tk_C T N ts J → Q none (br_hp n J L)) :
    br_r d 62 0 [some (.ref 55), z1] [] (br_hp n I L) Q := by
  obtain ⟨a1, a2, a3, a4, a5, ⟨j, a6, a7, a8⟩, a9, a10, a11⟩ := h
  have hj : j < T.length := Nat.lt_of_not_le (fun z => by rw [List.drop_eq_nil_of_le z] at a7; cases a7)
  have hd : T.drop (j + 1) = ts := by rw [← List.drop_drop, a7]; rfl
  refine rs_T_adv0 a1 a2 a3 a4 a5 a8 (nI_add _ _) (show j + 1 ≤ T.length by omega) (fun J h1 h2 => H J h1 ?_)
  rw [hd] at h2; exact h2
theorem rs_T_start {b : Nat → Nat} {N T0 : Nat} {z2 z3 z4 : Option Value} (ho : br_odx I) (h : tk_A b N I) (h1 : I 55 1 = nI T0) (hN : N ≤ T0) (hT : T0 ≤ 400)
    (H : ∀ J : Nat → Nat → Int32, (∀ q j, ¬ (q = 55 ∧ 5 ≤ j) → ¬ (57 ≤ q ∧ q ≤ 59) → J q j = I q j) → tk_C (tk_l b N N 0) N (tk_l b N N 0) J → Q none (br_hp n J L)) :
    br_r (d + 9) 41 0 [some (.ref 55), some (.int (nI N)), z2, z3, z4] [] (br_hp n I L) Q := by
  have loop : ∀ m i s (l : List tk_T) (J : Nat → Nat → Int32) (z1 z4 : Option Value), N ≤ i + m → i ≤ N → s ≤ i → l.length ≤ i → l ++ tk_l b N m i = tk_l b N N 0 → (∀ q j, ¬ (q = 55 ∧ 5 ≤ j) → ¬ (57 ≤ q ∧ q ≤ 59) → J q j = I q j) → J 55 5 = nI l.length → J 55 6 = nI N → tk_R l J →
      br_r (d + 9) 41 25 [some (.ref 55), z1, some (.int (nI i)), some (.int (nI s)), z4] [] (br_hp n J L) Q := by
    intro m
    induction m with
    | zero =>
      intro i s l J z1 z4 hm hi hs hl he hJ j5 j6 hr
      have hiN : i = N := by omega
      have hle : l = tk_l b N N 0 := by rw [← he]; exact (List.append_nil l).symm
      subst hle
      have end_ : ∀ z1 : Option Value, br_r (d + 8) 62 0 [some (.ref 55), none] [] (br_hp n (br_u J 55 7 (-(nI 1))) L) (fun v h => br_r (d + 9) 41 92 [some (.ref 55), z1, some (.int (nI i)), some (.int (nI s)), z4] (v.toList ++ []) (br_bk h) Q) := fun z1 => by
        refine rs_T_adv0 (T := tk_l b N N 0) (N := N) (j := 0) (x := -(nI 1)) (tk_R_c hr (fun p j q1 q2 => br_u_n (by omega))) (by omega) h.1 (by rw [br_u_n (by omega)]; exact j5) (by rw [br_u_n (by omega)]; exact j6) br_u_s (by decide +kernel) (Nat.zero_le _) (fun J2 hJ2 hC => rb_Tokens_start_92 (H J2 (fun q j q1 q2 => ?_) ?_))
        · rw [hJ2 q j (by omega), br_u_n (by omega)]; exact hJ q j q1 q2
        · rw [List.drop_zero] at hC; exact hC
      refine rb_Tokens_start_25 ⟨fun _ => end_ z1, fun _ => ?_⟩
      exact br_t (by rw [j6]; exact nI_le (by omega) (by omega)) (end_ z1)
    | succ m ih =>
      intro i s l J z1 z4 hm hi hs hl he hJ j5 j6 hr
      by_cases hiN : i < N
      · have hJA : tk_A b N J := tk_A_c h (fun j => hJ 56 j (by omega) (by omega))
        have hJo : br_odx J := br_odx_c ho (fun q j hq => hJ q j (by omega) (by omega))
        have h1' := h.1
        have hb := (h.2 i hiN).1
        obtain ⟨t1, t2, t3, t4⟩ := tk_at_b (b := b) hiN
        have c32 : nI (b i) = nI 32 ↔ b i = 32 := nI_eq (by omega) (by omega)
        have c10 : nI (b i) = nI 10 ↔ b i = 10 := nI_eq (by omega) (by omega)
        have cs : nI 400 < nI s ↔ 400 < s := by rw [br_ltT, nI_toInt (by omega), nI_toInt (by omega)]; omega
        have sp : tk_sp (b i) = true → br_r (d + 9) 41 74 [some (.ref 55), z1, some (.int (nI i)), some (.int (nI s)), some (.int (nI (tk_end b N i)))] [] (br_hp n J L) Q := by
          intro hsp
          have h32 := of_decide_eq_true hsp
          have e1 : tk_end b N i = i + 1 := by
            unfold tk_end tk_dg tk_lt
            rw [if_neg (by rw [decide_eq_true_eq]; omega), if_neg (by rw [decide_eq_true_eq]; omega)]
          rw [e1]
          refine rb_Tokens_start_74 ?_
          rw [nI_add]
          exact ih (i + 1) (s + 1) l J _ _ (by omega) (by omega) (by omega) (by omega) (by rw [← he, tk_l_S hiN hsp]) hJ j5 j6 hr
        refine rb_Tokens_start_25 (br_f (by rw [cs]; omega) (br_f (by rw [j6]; exact nI_ge hiN (by omega)) (rs_T_end (d := d + 7) hJA j6 hiN (rb_Tokens_start_45 (rs_T_sign hJA hiN (rb_Tokens_start_52 ?_))))))
        rw [c32]
        refine ⟨fun q => sp (decide_eq_true (Or.inr q)), fun q => rs_T_sign hJA hiN (rb_Tokens_start_62 ?_)⟩
        rw [c10]
        refine ⟨fun q2 => sp (decide_eq_true (Or.inl q2)), fun q2 => ?_⟩
        have hns : ¬ tk_sp (b i) = true := fun z => by have := of_decide_eq_true z; omega
        rw [tk_end_at]
        refine rs_T_keep (d := d) hJo hJA hiN j5 (by omega) hr (fun J2 hJ2 j52 hr2 => rb_Tokens_start_74 ?_)
        rw [nI_add]
        refine ih (tk_at b N i).2 (s + 1) (l ++ [(tk_at b N i).1]) J2 _ _ (by omega) t3 (by omega) (by rw [List.length_append]; have : [(tk_at b N i).1].length = 1 := rfl; omega) ?_ (fun q j q3 q4 => by rw [hJ2 q j (by omega) q4]; exact hJ q j q3 q4) j52 (by rw [hJ2 55 6 (by omega) (by omega)]; exact j6) hr2
        rw [← he, tk_l_T hiN hns, List.append_assoc]; rfl
      · have e : tk_l b N (m + 1) i = tk_l b N m i := by rw [tk_l_0 (by omega), tk_l_0 (by omega)]
        exact ih i s l J z1 z4 (by omega) hi hs hl (by rw [← he, e]) hJ j5 j6 hr
  have hN4 := h.1
  refine rb_Tokens_start_0 (rs_min ?_)
  rw [h1, br_minN (by omega) (by omega), show min N T0 = N by omega]
  refine rb_Tokens_start_10 (rs_max ?_)
  rw [br_maxN (by omega) (by omega), show max 0 N = N by omega]
  refine rb_Tokens_start_13 (loop N 0 0 [] _ _ _ (by omega) (Nat.zero_le _) (Nat.le_refl _) (Nat.le_refl _) rfl (fun q j q1 q2 => ?_) ?_ ?_ (fun j t ht => by cases ht))
  · rw [br_u_n (by omega), br_u_n (by omega)]
  · rw [br_u_s]; rfl
  · rw [br_u_n (by omega), br_u_s]
end
