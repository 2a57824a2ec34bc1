set_option maxRecDepth 100000
set_option maxHeartbeats 4000000
/-! the class finds the tokens -/
theorem tk_ch : ∀ c, c < 128 → vp_nar .char (((nI c &&& nI 255).toUInt32 % 65536).toInt32) = (((nI c &&& nI 255).toUInt32 % 65536).toInt32) ∧ ((nI c &&& nI 255).toUInt32 % 65536).toInt32 = nI c ∧ vp_nar .char (nI c) = nI c := by decide +kernel
def br_odx (I : Nat → Nat → Int32) : Prop := (∀ j, I 2 j = br_mostL.getD j 0) ∧ (∀ j, I 4 j = br_wordsL.getD j 0) ∧ (∀ j, I 6 j = br_keysL.getD j 0) ∧ I 3 1 = 0 ∧ I 5 1 = 0
theorem br_odx_of {xs : Nat → Int32} {I : Nat → Nat → Int32} (h : br_od xs I) : br_odx I := ⟨fun j => h 2 j (by omega), fun j => h 4 j (by omega), fun j => h 6 j (by omega), h 3 1 (by omega), h 5 1 (by omega)⟩
theorem br_odx_c {I J : Nat → Nat → Int32} (h : br_odx I) (h2 : ∀ p j, p < 8 → J p j = I p j) : br_odx J := by
  obtain ⟨a, b, c, e, f⟩ := h
  exact ⟨fun j => by rw [h2 2 j (by omega)]; exact a j, fun j => by rw [h2 4 j (by omega)]; exact b j, fun j => by rw [h2 6 j (by omega)]; exact c j, by rw [h2 3 1 (by omega)]; exact e, by rw [h2 5 1 (by omega)]; exact f⟩
theorem tk_len : (tk_enc tk_CW).length = 151 ∧ (tk_enc tk_KW).length = 151 := by decide +kernel
theorem tk_small : (∀ c, c ∈ tk_enc tk_CW → c < 128) ∧ (∀ c, c ∈ tk_enc tk_KW → c < 128) := by decide +kernel
section
variable {d n : Nat} {Q : br_Q} {I J : Nat → Nat → Int32} {L : Nat → Nat → Int64}
theorem rs_charAt {r k l c : Nat} (hr : r = 3 ∧ l = 151 ∨ r = 5 ∧ l = 152) (h : br_odx I) (hk : k < l) (hc : c < 128) (he : I (r + 1) k = nI c) (H : Q (some (.int (nI c))) (br_hp n I L)) : br_r (d + 5) 51 0 [some (.ref r), some (.int (nI k))] [] (br_hp n I L) Q := by
  obtain ⟨_, _, _, h3, h5⟩ := h
  obtain ⟨q1, q2, q3⟩ := tk_ch c hc
  have go : ∀ (hS : br_S0 n r = (0, 13)) (hR : br_R0 r 0 = r + 1) (hS2 : br_S0 n (r + 1) = (4, l)) (h0 : I r 1 = nI 0), br_r (d + 5) 51 0 [some (.ref r), some (.int (nI k))] [] (br_hp n I L) Q := by
    intro hS hR hS2 h0
    refine rb_String_charAt_0 ⟨hS, rb_String_isLatin1_0 ⟨hS, ?_⟩⟩
    rw [h0]
    refine br_f (fun z => z rfl) (rb_String_charAt_4 (br_f br_10 ⟨hS, ?_⟩))
    rw [hR]
    refine rb_StringLatin1_charAt_0 ?_
    rw [hS2]
    refine ⟨rfl, rb_String_checkIndex_0 (rb_Preconditions_checkIndex_0 (br_f ?_ (br_t ?_ (rb_String_checkIndex_8 (rb_StringLatin1_charAt_6 ?_)))))⟩
    · rw [br_ltT, nI_toInt (by omega), nI_toInt (by omega)]; omega
    · exact nI_lt hk (by omega)
    · rw [hS2, nI_clamp (by omega), he]
      refine ⟨Or.inr rfl, vp_in_nI hk (by omega), q1, ?_⟩
      rw [q2]
      exact rb_String_charAt_15 ⟨q3, H⟩
  rcases hr with ⟨rfl, rfl⟩ | ⟨rfl, rfl⟩
  · exact go rfl rfl rfl h3
  · exact go rfl rfl rfl h5
theorem rs_strLen {r l : Nat} (hr : r = 3 ∧ l = 151 ∨ r = 5 ∧ l = 152) (h : br_odx I) (H : Q (some (.int (nI l))) (br_hp n I L)) : br_r (d + 2) 49 0 [some (.ref r)] [] (br_hp n I L) Q := by
  obtain ⟨_, _, _, h3, h5⟩ := h
  have go : ∀ (hS : br_S0 n r = (0, 13)) (hR : br_R0 r 0 = r + 1) (hS2 : br_S0 n (r + 1) = (4, l)) (h0 : I r 1 = (0 : Int32)), l < 2 ^ 31 → br_r (d + 2) 49 0 [some (.ref r)] [] (br_hp n I L) Q := by
    intro hS hR hS2 h0 hl
    refine rb_String_length_0 ⟨hS, ?_⟩
    rw [hR, hS2]
    refine ⟨rfl, hS, rb_String_coder_0 ⟨hS, ?_⟩⟩
    rw [h0]
    refine ⟨by decide +kernel, rb_String_length_9 ?_⟩
    have e : (Int32.ofNat l) >>> ((0 : Int32) &&& 31) = nI l := sc_shr0 hl
    rw [e]; exact H
  rcases hr with ⟨rfl, rfl⟩ | ⟨rfl, rfl⟩
  · exact go rfl rfl rfl h3 (by omega)
  · exact go rfl rfl rfl h5 (by omega)
/-- the tape as both have it -/
def tk_A (b : Nat → Nat) (n : Nat) (I : Nat → Nat → Int32) : Prop := n ≤ 400 ∧ ∀ k, k < n → b k < 256 ∧ I 56 k &&& nI 255 = nI (b k)
theorem tk_A_c {b : Nat → Nat} {N : Nat} (h : tk_A b N I) (h2 : ∀ j, J 56 j = I 56 j) : tk_A b N J := ⟨h.1, fun k hk => by rw [h2]; exact h.2 k hk⟩
theorem rs_T_sign {b : Nat → Nat} {N k : Nat} (h : tk_A b N I) (hk : k < N) (H : Q (some (.int (nI (b k)))) (br_hp n I L)) : br_r d 44 0 [some (.ref 55), some (.int (nI k))] [] (br_hp n I L) Q := by
  obtain ⟨h1, h2⟩ := h
  refine rb_Tokens_sign_0 (br_f (nI_pos (by omega)) (br_f (nI_ge (b := 400) (by omega) (by omega)) ⟨vp_in_nI (by omega) (by omega), ?_⟩))
  rw [nI_clamp (by omega), (h2 k hk).2]; exact H
theorem rs_T_digit {c : Nat} (hc : c < 256) (H : Q (some (.int (nI (tk_dg c).toNat))) (br_hp n I L)) : br_r d 45 0 [some (.int (nI c))] [] (br_hp n I L) Q := by
  have c1 : nI c < nI 48 ↔ c < 48 := by rw [br_ltT, nI_toInt (by omega), nI_toInt (by omega)]; omega
  have c2 : nI 57 < nI c ↔ 57 < c := by rw [br_ltT, nI_toInt (by omega), nI_toInt (by omega)]; omega
  refine rb_Tokens_isDigit_0 ?_
  rw [c1, c2]
  unfold tk_dg at H
  refine ⟨fun h => ?_, fun h => ⟨fun h2 => ?_, fun h2 => ?_⟩⟩
  · rw [decide_eq_false (by omega)] at H; exact H
  · rw [decide_eq_false (by omega)] at H; exact H
  · rw [decide_eq_true (by omega)] at H; exact H
theorem rs_T_letter {c : Nat} (hc : c < 256) (H : Q (some (.int (nI (tk_lt c).toNat))) (br_hp n I L)) : br_r d 46 0 [some (.int (nI c))] [] (br_hp n I L) Q := by
  have c1 : nI c < nI 97 ↔ c < 97 := by rw [br_ltT, nI_toInt (by omega), nI_toInt (by omega)]; omega
  have c2 : nI 122 < nI c ↔ 122 < c := by rw [br_ltT, nI_toInt (by omega), nI_toInt (by omega)]; omega
  refine rb_Tokens_isLetter_0 ?_
  rw [c1, c2]
  unfold tk_lt at H
  refine ⟨fun h => ?_, fun h => ⟨fun h2 => ?_, fun h2 => ?_⟩⟩
  · rw [decide_eq_false (by omega)] at H; exact H
  · rw [decide_eq_false (by omega)] at H; exact H
  · rw [decide_eq_true (by omega)] at H; exact H
/-- where a run ends -/
def tk_end (b : Nat → Nat) (N p : Nat) : Nat := if tk_dg (b p) = true then tk_e b N tk_dg N (p + 1) else if tk_lt (b p) = true then tk_e b N tk_lt N (p + 1) else p + 1
theorem rs_T_end {b : Nat → Nat} {N p : Nat} {z2 : Option Value} (h : tk_A b N I) (h6 : I 55 6 = nI N) (hp : p < N) (H : Q (some (.int (nI (tk_end b N p)))) (br_hp n I L)) : br_r (d + 1) 43 0 [some (.ref 55), some (.int (nI p)), z2] [] (br_hp n I L) Q := by
  have h1 := h.1
  have hb := (h.2 p hp).1
  have runD : ∀ m i (z1 : Option Value), N ≤ i + m → i ≤ N → Q (some (.int (nI (tk_e b N tk_dg m i)))) (br_hp n I L) → br_r (d + 1) 43 15 [some (.ref 55), z1, some (.int (nI i))] [] (br_hp n I L) Q := by
    intro m
    induction m with
    | zero =>
      intro i z1 hm hi K
      exact rb_Tokens_endOfRun_15 (br_t (by rw [h6]; exact nI_le (by omega) (by omega)) K)
    | succ m ih =>
      intro i z1 hm hi K
      refine rb_Tokens_endOfRun_15 ?_
      rw [h6, nI_leI (by omega) (by omega)]
      refine ⟨fun h7 => ?_, fun h7 => rs_T_sign h (by omega) (rb_Tokens_endOfRun_28 (rs_T_digit (h.2 i (by omega)).1 (rb_Tokens_endOfRun_31 ?_)))⟩
      · rw [tk_e_F (fun z => absurd z (by omega))] at K; exact K
      · rw [bu_nI0]
        refine ⟨fun h8 => ?_, fun h8 => ?_⟩
        · rw [tk_e_F (fun _ => h8)] at K; exact K
        · rw [Bool.not_eq_false] at h8
          rw [tk_e_T (by omega) h8] at K
          rw [nI_add]
          exact ih (i + 1) _ (by omega) (by omega) K
  have runL : ∀ m i (z1 : Option Value), N ≤ i + m → i ≤ N → Q (some (.int (nI (tk_e b N tk_lt m i)))) (br_hp n I L) → br_r (d + 1) 43 51 [some (.ref 55), z1, some (.int (nI i))] [] (br_hp n I L) Q := by
    intro m
    induction m with
    | zero =>
      intro i z1 hm hi K
      exact rb_Tokens_endOfRun_51 (br_t (by rw [h6]; exact nI_le (by omega) (by omega)) K)
    | succ m ih =>
      intro i z1 hm hi K
      refine rb_Tokens_endOfRun_51 ?_
      rw [h6, nI_leI (by omega) (by omega)]
      refine ⟨fun h7 => ?_, fun h7 => rs_T_sign h (by omega) (rb_Tokens_endOfRun_64 (rs_T_letter (h.2 i (by omega)).1 (rb_Tokens_endOfRun_67 ?_)))⟩
      · rw [tk_e_F (fun z => absurd z (by omega))] at K; exact K
      · rw [bu_nI0]
        refine ⟨fun h8 => ?_, fun h8 => ?_⟩
        · rw [tk_e_F (fun _ => h8)] at K; exact K
        · rw [Bool.not_eq_false] at h8
          rw [tk_e_T (by omega) h8] at K
          rw [nI_add]
          exact ih (i + 1) _ (by omega) (by omega) K
  unfold tk_end at H
  refine rb_Tokens_endOfRun_0 (rs_T_sign h hp (rb_Tokens_endOfRun_9 (rs_T_digit hb (rb_Tokens_endOfRun_12 ?_))))
  rw [bu_nI0, nI_add]
  refine ⟨fun h8 => rs_T_sign h hp (rb_Tokens_endOfRun_45 (rs_T_letter hb (rb_Tokens_endOfRun_48 ?_))), fun h8 => ?_⟩
  · rw [if_neg (by rw [h8]; exact Bool.false_ne_true)] at H
    rw [bu_nI0]
    refine ⟨fun h9 => ?_, fun h9 => ?_⟩
    · rw [if_neg (by rw [h9]; exact Bool.false_ne_true)] at H; exact H
    · rw [Bool.not_eq_false] at h9
      rw [if_pos h9] at H
      exact runL N (p + 1) _ (by omega) (by omega) H
  · rw [Bool.not_eq_false] at h8
    rw [if_pos h8] at H
    exact runD N (p + 1) _ (by omega) (by omega) H
theorem rs_T_word {b : Nat → Nat} {N p k : Nat} {z3 z4 z5 z6 z7 : Option Value} (ho : br_odx I) (h : tk_A b N I) (hp : p + k ≤ N) (H : Q (some (.int (nI (tk_cw (tk_g b k p))))) (br_hp n I L)) : br_r (d + 6) 48 0 [some (.ref 55), some (.int (nI p)), some (.int (nI (p + k))), z3, z4, z5, z6, z7] [] (br_hp n I L) Q := by
  have h1 := h.1
  have loop : ∀ (cs : List Nat) (x w i : Nat) (s : Bool) (z7 : Option Value), x + cs.length = 151 → (tk_enc tk_CW).drop x = cs → w ≤ x → p ≤ i → i ≤ p + k → Q (some (.int (nI (tk_wa b p (p + k) cs w i s)))) (br_hp n I L) →
      br_r (d + 6) 48 11 [some (.ref 55), some (.int (nI p)), some (.int (nI (p + k))), some (.int (nI w)), some (.int (nI i)), some (.int (nI s.toNat)), some (.int (nI x)), z7] [] (br_hp n I L) Q := by
    intro cs
    induction cs with
    | nil =>
      intro x w i s z7 hx hd hw hi hi2 K
      have hx2 : x = 151 := by simpa using hx
      subst hx2
      exact rb_Tokens_wordAt_11 (rs_strLen (Or.inl ⟨rfl, rfl⟩) ho (rb_Tokens_wordAt_18 (br_t (nI_le (Nat.le_refl _) (by omega)) K)))
    | cons c cs ih =>
      intro x w i s z7 hx hd hw hi hi2 K
      rw [List.length_cons] at hx
      have hd2 : (tk_enc tk_CW).drop (x + 1) = cs := by
        rw [← List.drop_drop, hd]; rfl
      have hg : (tk_enc tk_CW)[x]? = some c := by
        have : ((tk_enc tk_CW).drop x)[0]? = some c := by rw [hd]; rfl
        rw [List.getElem?_drop] at this; exact this
      have hc : c < 128 := tk_small.1 c (List.mem_of_getElem? hg)
      have hI4 : I 4 x = nI c := by
        rw [ho.2.1, tk_wordsL, List.getD_eq_getElem?_getD, List.getElem?_map, hg]; rfl
      have c32 : nI c = nI 32 ↔ c = 32 := nI_eq (by omega) (by omega)
      refine rb_Tokens_wordAt_11 (rs_strLen (Or.inl ⟨rfl, rfl⟩) ho (rb_Tokens_wordAt_18 (br_f (nI_ge (b := 151) (by omega) (by omega)) (rs_charAt (r := 3) (l := 151) (d := d) (Or.inl ⟨rfl, rfl⟩) ho (by omega) hc hI4 (rb_Tokens_wordAt_28 ?_)))))
      have nx := fun w i s z7 => ih (x + 1) w i s z7 (by omega) hd2
      rw [c32, bu_nI0, nI_leI (by omega) (by omega), nI_eq (a := i) (b := p + k) (by omega) (by omega)]
      simp only [nI_add]
      have K2 : Q (some (.int (nI (if c = 32 then (if s = true ∧ i = p + k then w else tk_wa b p (p + k) cs (w + 1) p true) else if s = true ∧ i < p + k ∧ b i = c then tk_wa b p (p + k) cs w (i + 1) true else tk_wa b p (p + k) cs w i false)))) (br_hp n I L) := K
      refine ⟨fun h32 => ⟨fun hs => ?_, fun hs => ⟨fun h7 => ?_, fun h7 => rs_T_sign h (by omega) (rb_Tokens_wordAt_79 ?_)⟩⟩, fun h32 => ⟨fun hs => ?_, fun hs => ⟨fun h7 => ?_, fun h7 => ?_⟩⟩⟩
      · rw [if_neg h32, if_neg (fun z => by rw [hs] at z; exact Bool.false_ne_true z.1)] at K2
        exact nx w i false _ (by omega) hi hi2 K2
      · rw [if_neg h32, if_neg (fun z => by omega)] at K2
        exact nx w i false _ (by omega) hi hi2 K2
      · rw [Bool.not_eq_false] at hs
        have hb := (h.2 i (by omega)).1
        rw [nI_eq (a := b i) (b := c) (by omega) (by omega)]
        simp only [nI_add]
        refine ⟨fun h8 => ?_, fun h8 => ?_⟩
        · rw [if_neg h32, if_neg (fun z => h8 z.2.2)] at K2
          exact nx w i false _ (by omega) hi hi2 K2
        · rw [if_neg h32, if_pos ⟨hs, by omega, Classical.not_not.mp h8⟩] at K2
          have := nx w (i + 1) true (some (.int (nI c))) (by omega) (by omega) (by omega) K2
          rw [hs]; exact this
      · have h32' := Classical.not_not.mp h32
        rw [if_pos h32', if_neg (fun z => by rw [hs] at z; exact Bool.false_ne_true z.1)] at K2
        exact nx (w + 1) p true _ (by omega) (Nat.le_refl _) (by omega) K2
      · have h32' := Classical.not_not.mp h32
        rw [if_pos h32', if_neg (fun z => h7 z.2)] at K2
        exact nx (w + 1) p true _ (by omega) (Nat.le_refl _) (by omega) K2
      · have h32' := Classical.not_not.mp h32
        rw [Bool.not_eq_false] at hs
        rw [if_pos h32', if_pos ⟨hs, Classical.not_not.mp h7⟩] at K2
        exact K2
  refine rb_Tokens_wordAt_0 ?_
  rw [← tk_wa_cw] at H
  exact loop (tk_enc tk_CW) 0 0 p true z7 (by rw [tk_len.1]) rfl (Nat.le_refl _) (Nat.le_refl _) (by omega) H
theorem tk_nu_b {b : Nat → Nat} : ∀ k p a, (∀ j, p ≤ j → j < p + k → tk_dg (b j) = true) → k ≤ 3 → tk_nu b k p a ≤ 10 ^ k * a + (10 ^ k - 1)
  | 0, p, a, _, _ => by show a ≤ 1 * a + (1 - 1); omega
  | k + 1, p, a, h, hk => by
    have h1 := of_decide_eq_true (h p (Nat.le_refl _) (by omega))
    have ih := tk_nu_b (b := b) k (p + 1) (10 * a + b p - 48) (fun j h2 h3 => h j (by omega) (by omega)) (by omega)
    show tk_nu b k (p + 1) (10 * a + b p - 48) ≤ _
    rcases (by omega : k = 0 ∨ k = 1 ∨ k = 2) with rfl | rfl | rfl
    · simp only [Nat.pow_zero, Nat.pow_succ] at ih ⊢; omega
    · simp only [Nat.pow_zero, Nat.pow_succ] at ih ⊢; omega
    · simp only [Nat.pow_zero, Nat.pow_succ] at ih ⊢; omega
theorem rs_T_num {b : Nat → Nat} {N p k : Nat} {z3 z4 : Option Value} (h : tk_A b N I) (hp : p + k ≤ N) (hk : k ≤ 3) (hd : ∀ j, p ≤ j → j < p + k → tk_dg (b j) = true) (H : Q (some (.int (nI (tk_nu b k p 0)))) (br_hp n I L)) : br_r (d + 1) 61 0 [some (.ref 55), some (.int (nI p)), some (.int (nI (p + k))), z3, z4] [] (br_hp n I L) Q := by
  have h1 := h.1
  have loop : ∀ m i a (z1 : Option Value), i + m = p + k → p ≤ i → Q (some (.int (nI (tk_nu b m i a)))) (br_hp n I L) → (m ≤ 3) → (m = 3 → a = 0) → (m = 2 → a < 10) → (m = 1 → a < 100) → (m = 0 → a < 1000) → br_r (d + 1) 61 5 [some (.ref 55), z1, some (.int (nI (p + k))), some (.int (nI a)), some (.int (nI i))] [] (br_hp n I L) Q := by
    intro m
    induction m with
    | zero =>
      intro i a z1 hi hpi K _ _ _ _ _
      exact rb_Tokens_numberAt_5 (br_t (nI_le (by omega) (by omega)) K)
    | succ m ih =>
      intro i a z1 hi hpi K h3 e3 e2 e1 e0
      have hdi := of_decide_eq_true (hd i hpi (by omega))
      refine rb_Tokens_numberAt_5 (br_f (nI_ge (by omega) (by omega)) (rs_T_sign h (by omega) (rb_Tokens_numberAt_21 ?_)))
      rw [pk_mul, nI_add, pk_sub (by omega), nI_add]
      have K2 : Q (some (.int (nI (tk_nu b m (i + 1) (10 * a + b i - 48))))) (br_hp n I L) := K
      refine ih (i + 1) (10 * a + b i - 48) z1 (by omega) (by omega) K2 (by omega) (fun z => ?_) (fun z => ?_) (fun z => ?_) (fun z => ?_)
      · omega
      · have := e3 (by omega); omega
      · have := e2 (by omega); omega
      · have := e1 (by omega); omega
  exact rb_Tokens_numberAt_0 (loop k p 0 _ rfl (Nat.le_refl _) H hk (fun _ => rfl) (fun _ => by omega) (fun _ => by omega) (fun _ => by omega))
end
