set_option maxRecDepth 100000
set_option maxHeartbeats 4000000
/-! the model finds the next token -/
def tk_B (b : Nat → Nat) (n : Nat) (I : Nat → Nat → Int32) : Prop := n ≤ 400 ∧ ∀ k, k < n → b k < 256 ∧ I 173 k = nI (b k)
theorem tk_nu_s {b : Nat → Nat} : ∀ k p a, tk_nu b (k + 1) p a = 10 * tk_nu b k p a + b (p + k) - 48
  | 0, p, a => rfl
  | k + 1, p, a => by
    have ih := tk_nu_s (b := b) k (p + 1) (10 * a + b p - 48)
    show tk_nu b (k + 1) (p + 1) (10 * a + b p - 48) = 10 * tk_nu b k (p + 1) (10 * a + b p - 48) + b (p + (k + 1)) - 48
    rw [ih, show p + 1 + k = p + (k + 1) by omega]
theorem tk_k_sg (c : Nat) : tk_k (tk_sg c) = if c = 59 then 30 else if c = 40 then 31 else if c = 41 then 32 else if c = 45 then 33 else 35 := by
  unfold tk_sg
  by_cases h1 : c = 40
  · subst h1; rfl
  · by_cases h2 : c = 41
    · subst h2; rfl
    · by_cases h3 : c = 45
      · subst h3; rfl
      · by_cases h4 : c = 59
        · subst h4; rfl
        · rw [if_neg h1, if_neg h2, if_neg h3, if_neg h4, if_neg h4, if_neg h1, if_neg h2, if_neg h3]; rfl
section
variable {d n : Nat} {Q : br_Q} {I J : Nat → Nat → Int32} {L : Nat → Nat → Int64}
theorem tk_B_c {b : Nat → Nat} {N : Nat} (h : tk_B b N I) (h2 : ∀ j, J 173 j = I 173 j) : tk_B b N J := ⟨h.1, fun k hk => by rw [h2]; exact h.2 k hk⟩
theorem rs_M_see {b : Nat → Nat} {N k : Nat} (h : tk_B b N I) (h9 : I 169 9 = nI N) (hk : k ≤ N) (H : Q (some (.int (if k < N then nI (b k) else -(nI 1)))) (br_hp n I L)) : br_r d 205 0 [some (.ref 169), some (.int (nI k))] [] (br_hp n I L) Q := by
  obtain ⟨h1, h2⟩ := h
  refine rb_M_see_0 ?_
  rw [h9, nI_leI (by omega) (by omega), nI_clamp (by omega)]
  refine ⟨fun h => ?_, fun h => ⟨vp_in_nI (by omega) (by omega), ?_⟩⟩
  · rw [if_neg (by omega)] at H; exact H
  · rw [if_pos (by omega)] at H
    rw [(h2 k (by omega)).2]; exact H
theorem rs_M_small {c : Nat} (hc : c < 256) (H : Q (some (.int (nI (tk_lt c).toNat))) (br_hp n I L)) : br_r d 206 0 [some (.int (nI c))] [] (br_hp n I L) Q := by
  have c1 : nI c < nI 97 ↔ c < 97 := by rw [br_ltT, nI_toInt (by omega), nI_toInt (by omega)]; omega
  have c2 : nI 122 < nI c ↔ 122 < c := by rw [br_ltT, nI_toInt (by omega), nI_toInt (by omega)]; omega
  refine rb_M_isSmall_0 ?_
  rw [c1, c2]
  unfold tk_lt at H
  refine ⟨fun h => ?_, fun h => ⟨fun h2 => ?_, fun h2 => ?_⟩⟩
  · rw [decide_eq_false (by omega)] at H; exact H
  · rw [decide_eq_false (by omega)] at H; exact H
  · rw [decide_eq_true (by omega)] at H; exact H
theorem rs_M_digit {c : Nat} (hc : c < 256) (H : Q (some (.int (nI (tk_dg c).toNat))) (br_hp n I L)) : br_r d 208 0 [some (.int (nI c))] [] (br_hp n I L) Q := by
  have c1 : nI c < nI 48 ↔ c < 48 := by rw [br_ltT, nI_toInt (by omega), nI_toInt (by omega)]; omega
  have c2 : nI 57 < nI c ↔ 57 < c := by rw [br_ltT, nI_toInt (by omega), nI_toInt (by omega)]; omega
  refine rb_M_isDigit_0 ?_
  rw [c1, c2]
  unfold tk_dg at H
  refine ⟨fun h => ?_, fun h => ⟨fun h2 => ?_, fun h2 => ?_⟩⟩
  · rw [decide_eq_false (by omega)] at H; exact H
  · rw [decide_eq_false (by omega)] at H; exact H
  · rw [decide_eq_true (by omega)] at H; exact H
theorem rs_M_smallN (H : Q (some (.int (nI 0))) (br_hp n I L)) : br_r d 206 0 [some (.int (-(nI 1)))] [] (br_hp n I L) Q := rb_M_isSmall_0 (br_t (by decide +kernel) H)
theorem rs_M_digitN (H : Q (some (.int (nI 0))) (br_hp n I L)) : br_r d 208 0 [some (.int (-(nI 1)))] [] (br_hp n I L) Q := rb_M_isDigit_0 (br_t (by decide +kernel) H)
theorem tk_key {I : Nat → Nat → Int32} (ho : br_odx I) {k c : Nat} {r : List Nat} (hd : (32 :: tk_enc tk_KW).drop k = c :: r) : k < 152 ∧ I 6 k = nI c ∧ c < 128 ∧ (32 :: tk_enc tk_KW).drop (k + 1) = r := by
  have hg : (32 :: tk_enc tk_KW)[k]? = some c := by
    have : ((32 :: tk_enc tk_KW).drop k)[0]? = some c := by rw [hd]; rfl
    rw [List.getElem?_drop] at this; exact this
  have hk : k < (32 :: tk_enc tk_KW).length := (List.getElem?_eq_some_iff.mp hg).1
  rw [List.length_cons, tk_len.2] at hk
  refine ⟨hk, ?_, ?_, ?_⟩
  · rw [ho.2.2.1, tk_keysL, List.getD_eq_getElem?_getD, List.getElem?_map, hg]; rfl
  · rcases List.mem_cons.mp (List.mem_of_getElem? hg) with h | h
    · rw [h]; omega
    · exact tk_small.2 c h
  · rw [← List.drop_drop, hd]; rfl
theorem rs_M_keyAt {b : Nat → Nat} {N p e : Nat} {z1 z2 z3 : Option Value} (ho : br_odx I) (h : tk_B b N I) (e7 : I 169 7 = nI p) (e8 : I 169 8 = nI e) (hp : p ≤ e) (he : e ≤ N) (H : Q (some (.int (nI (tk_ix (fun w => tk_m b e w p) 28 tk_KW 0)))) (br_hp n I L)) :
    br_r (d + 6) 207 0 [some (.ref 169), z1, z2, z3] [] (br_hp n I L) Q := by
  have h1 := h.1
  have ch : ∀ {k c : Nat} {r : List Nat} (Q' : br_Q), (32 :: tk_enc tk_KW).drop k = c :: r → Q' (some (.int (nI c))) (br_hp n I L) → br_r (d + 5) 51 0 [some (.ref 5), some (.int (nI k))] [] (br_hp n I L) Q' := by
    intro k c r Q' hd K
    obtain ⟨q1, q2, q3, q4⟩ := tk_key ho hd
    exact rs_charAt (r := 5) (l := 152) (d := d) (Or.inr ⟨rfl, rfl⟩) ho q1 q3 q2 K
  have loop : ∀ (ws : List (List Nat)) (k w : Nat) (z3 : Option Value), k + (tk_enc ws).length = 152 → (32 :: tk_enc tk_KW).drop k = tk_enc ws → (∀ w, w ∈ ws → ¬ 32 ∈ w) → w + ws.length = 28 → Q (some (.int (nI (tk_ix (fun w => tk_m b e w p) 28 ws w)))) (br_hp n I L) →
      br_r (d + 6) 207 4 [some (.ref 169), some (.int (nI w)), some (.int (nI k)), z3] [] (br_hp n I L) Q := by
    intro ws
    induction ws with
    | nil =>
      intro k w z3 hk hd h32 hw K
      have hk2 : k = 152 := by simpa [tk_enc] using hk
      subst hk2
      exact rb_M_keyAt_4 (rs_strLen (Or.inr ⟨rfl, rfl⟩) ho (rb_M_keyAt_10 (br_t (nI_le (Nat.le_refl _) (by omega)) K)))
    | cons w0 ws ih =>
      intro k w z3 hk hd h32 hw K
      have hd0 : (32 :: tk_enc tk_KW).drop k = w0 ++ 32 :: tk_enc ws := hd
      have hlen : (tk_enc (w0 :: ws)).length = w0.length + (1 + (tk_enc ws).length) := by
        show (w0 ++ 32 :: tk_enc ws).length = _
        rw [List.length_append, List.length_cons]; omega
      rw [hlen] at hk
      rw [List.length_cons] at hw
      have K2 : Q (some (.int (nI (if tk_m b e w0 p = true then w else tk_ix (fun w => tk_m b e w p) 28 ws (w + 1))))) (br_hp n I L) := K
      have hw0 := h32 w0 List.mem_cons_self
      -- on to the next word
      have skip : ∀ (w2 : List Nat) (k' : Nat) (z3 : Option Value), (32 :: tk_enc tk_KW).drop k' = w2 ++ 32 :: tk_enc ws → k' + (w2.length + (1 + (tk_enc ws).length)) = 152 → ¬ 32 ∈ w2 → tk_m b e w0 p = false →
          br_r (d + 6) 207 97 [some (.ref 169), some (.int (nI w)), some (.int (nI k')), z3] [] (br_hp n I L) Q := by
        intro w2
        induction w2 with
        | nil =>
          intro k' z3 hd' hk' h2 hm
          rw [hm, if_neg Bool.false_ne_true] at K2
          have hq := (tk_key ho hd').2.2.2
          refine rb_M_keyAt_97 (ch _ hd' (rb_M_keyAt_103 (br_t rfl ?_)))
          rw [nI_add, nI_add]
          exact ih (k' + 1) (w + 1) z3 (by simp only [List.length_nil] at hk'; omega) hq (fun w hw => h32 w (List.mem_cons_of_mem _ hw)) (by omega) K2
        | cons c w2 ih2 =>
          intro k' z3 hd' hk' h2 hm
          rw [List.length_cons] at hk'
          obtain ⟨q1, q2, q3, q4⟩ := tk_key ho hd'
          refine rb_M_keyAt_97 (ch _ hd' (rb_M_keyAt_103 (br_f ?_ ?_)))
          · rw [nI_eq (by omega) (by omega)]
            exact fun z => h2 (by rw [z]; exact List.mem_cons_self)
          · rw [nI_add]
            exact ih2 (k' + 1) z3 q4 (by omega) (fun z => h2 (List.mem_cons_of_mem _ z)) hm
      have away : ∀ z3 : Option Value, tk_m b e w0 p = false → br_r (d + 6) 207 97 [some (.ref 169), some (.int (nI w)), some (.int (nI k)), z3] [] (br_hp n I L) Q := fun z3 hm => skip w0 k z3 hd0 (by omega) hw0 hm
      -- within the word
      have inner : ∀ (w2 : List Nat) (i : Nat), (32 :: tk_enc tk_KW).drop (k + i) = w2 ++ 32 :: tk_enc ws → k + i + w2.length ≤ 151 → ¬ 32 ∈ w2 → p + i ≤ e → tk_m b e w0 p = tk_m b e w2 (p + i) →
          br_r (d + 6) 207 15 [some (.ref 169), some (.int (nI w)), some (.int (nI k)), some (.int (nI i))] [] (br_hp n I L) Q := by
        intro w2
        induction w2 with
        | nil =>
          intro i hd' hk' h2 hpi hm
          refine rb_M_keyAt_15 ?_
          rw [nI_add]
          refine ch _ hd' (rb_M_keyAt_23 (br_t rfl ?_))
          rw [nI_add]
          refine ch _ hd' (rb_M_keyAt_77 (br_f (fun z => z rfl) ?_))
          rw [e7, e8, nI_add, nI_eq (a := p + i) (b := e) (by omega) (by omega)]
          have hm2 : tk_m b e w0 p = decide (p + i = e) := hm
          refine ⟨fun h5 => away _ (by rw [hm2, decide_eq_false h5]), fun h5 => ?_⟩
          rw [hm2, decide_eq_true (Classical.not_not.mp h5), if_pos rfl] at K2
          exact K2
        | cons c w2 ih2 =>
          intro i hd' hk' h2 hpi hm
          rw [List.length_cons] at hk'
          obtain ⟨q1, q2, q3, q4⟩ := tk_key ho hd'
          have c32 : ¬ nI c = nI 32 := by
            rw [nI_eq (by omega) (by omega)]
            exact fun z => h2 (by rw [z]; exact List.mem_cons_self)
          have hm2 : tk_m b e w0 p = (decide (p + i < e ∧ b (p + i) = c) && tk_m b e w2 (p + i + 1)) := hm
          refine rb_M_keyAt_15 ?_
          rw [nI_add]
          refine ch _ hd' (rb_M_keyAt_23 (br_f c32 ?_))
          rw [e7, e8, nI_add, nI_add, nI_leI (by omega) (by omega), nI_clamp (by omega)]
          refine ⟨fun h5 => ch _ hd' (rb_M_keyAt_77 (br_t c32 (away _ (by rw [hm2, decide_eq_false (by omega)]; rfl)))), fun h5 => ⟨vp_in_nI (by omega) (by omega), ch _ hd' (rb_M_keyAt_60 ?_)⟩⟩
          have hb := h.2 (p + i) (by omega)
          rw [hb.2, nI_eq (a := b (p + i)) (b := c) (by omega) (by omega), nI_add, nI_add]
          refine ⟨fun h6 => ch _ hd' (rb_M_keyAt_77 (br_t c32 (away _ (by rw [hm2, decide_eq_false (fun z => h6 z.2)]; rfl)))), fun h6 => ?_⟩
          have h6' := Classical.not_not.mp h6
          refine ih2 (i + 1) q4 (by omega) (fun z => h2 (List.mem_cons_of_mem _ z)) (by omega) ?_
          rw [hm2, decide_eq_true ⟨by omega, h6'⟩, Bool.true_and]; rfl
      refine rb_M_keyAt_4 (rs_strLen (Or.inr ⟨rfl, rfl⟩) ho (rb_M_keyAt_10 (br_f (nI_ge (b := 152) (by omega) (by omega)) ?_)))
      exact inner w0 0 hd0 (by omega) hw0 hp rfl
  refine rb_M_keyAt_0 (loop tk_KW 1 0 z3 (by rw [tk_len.2]) rfl tk_KW32 rfl H)
/-- where the model stands -/
def tk_Mr (b : Nat → Nat) (N : Nat) (ts : List tk_T) (J : Nat → Nat → Int32) : Prop := tk_B b N J ∧ br_odx J ∧ J 169 9 = nI N ∧ (∃ p, p ≤ N ∧ J 169 8 = nI p ∧ tk_l b N N p = ts.tail) ∧ J 169 7 = nI (tk_hd N ts).2.1 ∧ J 169 10 = nI (tk_k (tk_hd N ts).1) ∧ ((tk_hd N ts).1 = 41 → J 169 11 = nI (tk_hd N ts).2.2)
theorem tk_Mr_c {b : Nat → Nat} {N : Nat} {ts : List tk_T} (h : tk_Mr b N ts I) (h2 : ∀ p j, (p < 8 ∨ p = 173 ∨ p = 169 ∧ 7 ≤ j ∧ j ≤ 11) → J p j = I p j) : tk_Mr b N ts J := by
  obtain ⟨a1, a2, a3, ⟨p, a4, a5, a6⟩, a7, a8, a9⟩ := h
  exact ⟨tk_B_c a1 (fun j => h2 173 j (by omega)), br_odx_c a2 (fun p j q => h2 p j (by omega)), by rw [h2 169 9 (by omega)]; exact a3, ⟨p, a4, by rw [h2 169 8 (by omega)]; exact a5, a6⟩, by rw [h2 169 7 (by omega)]; exact a7, by rw [h2 169 10 (by omega)]; exact a8, fun z => by rw [h2 169 11 (by omega)]; exact a9 z⟩
theorem rs_M_next0 {b : Nat → Nat} {N p : Nat} {ts : List tk_T} (ho : br_odx I) (h : tk_B b N I) (e9 : I 169 9 = nI N) (hp : p ≤ N) (e8 : I 169 8 = nI p) (hl : tk_l b N N p = ts)
    (H : ∀ J : Nat → Nat → Int32, (∀ q j, ¬ (q = 169 ∧ 7 ≤ j ∧ j ≤ 11 ∧ j ≠ 9) → J q j = I q j) → tk_Mr b N ts J → Q none (br_hp n J L)) :
    br_r (d + 7) 204 0 [some (.ref 169)] [] (br_hp n I L) Q := by
  have h1 := h.1
  have ho' : ∀ J : Nat → Nat → Int32, (∀ q j, ¬ (q = 169 ∧ 7 ≤ j ∧ j ≤ 11 ∧ j ≠ 9) → J q j = I q j) → br_odx J ∧ tk_B b N J ∧ J 169 9 = nI N := fun J hJ => ⟨br_odx_c ho (fun q j hq => hJ q j (by omega)), tk_B_c h (fun j => hJ 173 j (by omega)), by rw [hJ 169 9 (by omega)]; exact e9⟩
  -- the token stands at i
  have token : ∀ (i : Nat) (J : Nat → Nat → Int32), i < N → ¬ tk_sp (b i) = true → (tk_at b N i).1 :: tk_l b N N (tk_at b N i).2 = ts → (∀ q j, ¬ (q = 169 ∧ 7 ≤ j ∧ j ≤ 11 ∧ j ≠ 9) → J q j = I q j) → J 169 7 = nI i → J 169 8 = nI i →
      br_r (d + 6) 206 0 [some (.int (nI (b i)))] [] (br_hp n J L) (fun v h => br_r (d + 7) 204 86 [some (.ref 169)] (v.toList ++ []) (br_bk h) Q) := by
    intro i J hi hns hts hJ j7 j8
    obtain ⟨t1, t2, t3, t4⟩ := tk_at_b (b := b) hi
    have hb := (h.2 i hi).1
    -- the end
    have fin : ∀ (J2 : Nat → Nat → Int32), (∀ q j, ¬ (q = 169 ∧ 8 ≤ j ∧ j ≤ 11 ∧ j ≠ 9) → J2 q j = J q j) → J2 169 8 = nI (tk_at b N i).2 → J2 169 10 = nI (tk_k (tk_at b N i).1.1) → ((tk_at b N i).1.1 = 41 → J2 169 11 = nI (tk_at b N i).1.2.2) → Q none (br_hp n J2 L) := by
      intro J2 f a8 a10 a11
      have fI : ∀ q j, ¬ (q = 169 ∧ 7 ≤ j ∧ j ≤ 11 ∧ j ≠ 9) → J2 q j = I q j := fun q j z => by rw [f q j (by omega)]; exact hJ q j z
      obtain ⟨c1, c2, c3⟩ := ho' J2 fI
      refine H J2 fI ?_
      rw [← hts]
      exact ⟨c2, c1, c3, ⟨_, t3, a8, rfl⟩, by rw [f 169 7 (by omega), j7]; show nI i = nI (tk_at b N i).1.2.1; rw [t1], a10, a11⟩
    refine rs_M_small hb (rb_M_next_86 ?_)
    rw [bu_nI0, j7]
    refine ⟨fun hlt => ?_, fun hlt => ?_⟩
    · have hlt' : ¬ tk_lt (b i) = true := by rw [hlt]; exact Bool.false_ne_true
      refine rs_M_see (ho' J hJ).2.1 (ho' J hJ).2.2 (by omega) ?_
      rw [if_pos hi]
      refine rb_M_next_135 (rs_M_digit hb (rb_M_next_138 ?_))
      rw [bu_nI0]
      refine ⟨fun hdg => ?_, fun hdg => ?_⟩
      · have hdg' : ¬ tk_dg (b i) = true := by rw [hdg]; exact Bool.false_ne_true
        have eat := tk_at_S (n := N) hlt' hdg'
        rw [br_u_n (by omega), j7, j8, nI_add]
        have fI : ∀ q j, ¬ (q = 169 ∧ 7 ≤ j ∧ j ≤ 11 ∧ j ≠ 9) → br_u J 169 8 (nI (i + 1)) q j = I q j := fun q j z => by rw [br_u_n (by omega)]; exact hJ q j z
        refine rs_M_see (ho' _ fI).2.1 (ho' _ fI).2.2 (by omega) ?_
        rw [if_pos hi]
        refine rb_M_next_255 ?_
        have out : ∀ k, k = tk_k (tk_sg (b i)) → br_r (d + 7) 204 258 [some (.ref 169)] [.int (nI k), .ref 169] (br_hp n (br_u J 169 8 (nI (i + 1))) L) Q := by
          intro k hk
          refine rb_M_next_258 (fin _ (fun q j z => by rw [br_u_n (by omega), br_u_n (by omega)]) ?_ ?_ (fun z => ?_))
          · rw [br_u_n (by omega), br_u_s, eat]
          · rw [br_u_s, eat, hk]
          · rw [eat] at z
            have := tk_sg_b (b i)
            have z2 : tk_sg (b i) = 41 := z
            omega
        have c40 : nI (b i) = nI 40 ↔ b i = 40 := nI_eq (by omega) (by omega)
        have c41 : nI (b i) = nI 41 ↔ b i = 41 := nI_eq (by omega) (by omega)
        have c45 : nI (b i) = nI 45 ↔ b i = 45 := nI_eq (by omega) (by omega)
        have c59 : nI (b i) = nI 59 ↔ b i = 59 := nI_eq (by omega) (by omega)
        refine rb_M_signOf_0 ?_
        rw [c40, c41, c45, c59]
        refine ⟨fun q => ⟨fun q2 => ⟨fun q3 => ⟨fun q4 => out 35 ?_, fun q4 => out 33 ?_⟩, fun q3 => out 32 ?_⟩, fun q2 => out 31 ?_⟩, fun q => out 30 ?_⟩
        · rw [tk_k_sg, if_neg q, if_neg q2, if_neg q3, if_neg q4]
        · rw [tk_k_sg, if_neg q, if_neg q2, if_neg q3, if_pos (Classical.not_not.mp q4)]
        · rw [tk_k_sg, if_neg q, if_neg q2, if_pos (Classical.not_not.mp q3)]
        · rw [tk_k_sg, if_neg q, if_pos (Classical.not_not.mp q2)]
        · rw [tk_k_sg, if_pos (Classical.not_not.mp q)]
      · rw [Bool.not_eq_false] at hdg
        have he : (tk_at b N i).2 = tk_e b N tk_dg N (i + 1) := by rw [← tk_end_at]; unfold tk_end; rw [if_pos hdg]
        have eN : tk_e b N tk_dg N (i + 1) = tk_e b N tk_dg (N + 1) i := by rw [tk_e_T hi hdg]
        have loop : ∀ m j (J2 : Nat → Nat → Int32), N ≤ j + m → i ≤ j → j ≤ N → tk_e b N tk_dg m j = (tk_at b N i).2 → (∀ k, i ≤ k → k < j → tk_dg (b k) = true) → (∀ q j, ¬ (q = 169 ∧ 8 ≤ j ∧ j ≤ 11 ∧ j ≠ 9) → J2 q j = J q j) → J2 169 8 = nI j → (j - i ≤ 3 → J2 169 11 = nI (tk_nu b (j - i) i 0)) →
            br_r (d + 7) 204 146 [some (.ref 169)] [] (br_hp n J2 L) Q := by
          intro m
          induction m with
          | zero =>
            intro j J2 hm hij hj hee hall f a8 a11
            have hjN : j = N := by omega
            have fI : ∀ q j, ¬ (q = 169 ∧ 7 ≤ j ∧ j ≤ 11 ∧ j ≠ 9) → J2 q j = I q j := fun q j z => by rw [f q j (by omega)]; exact hJ q j z
            have hee' : j = (tk_at b N i).2 := hee
            refine rb_M_next_146 ?_
            rw [a8]
            refine rs_M_see (ho' J2 fI).2.1 (ho' J2 fI).2.2 (by omega) ?_
            rw [if_neg (by omega)]
            refine rb_M_next_154 (rs_M_digitN (rb_M_next_157 (br_t rfl ?_)))
            have a7 : J2 169 7 = nI i := by rw [f 169 7 (by omega)]; exact j7
            rw [a8, a7, pk_sub hij, nI_leI (by omega) (by omega)]
            refine ⟨fun h3 => ?_, fun h3 => ?_⟩
            · have eat := tk_at_D hlt' hdg (by rw [← he, ← hee']; exact h3)
              rw [← he, ← hee'] at eat
              refine fin _ (fun q j z => by rw [br_u_n (by omega)]; exact f q j z) (by rw [br_u_n (by omega), a8, hee']) (by rw [br_u_s, eat]; rfl) (fun _ => by rw [br_u_n (by omega), a11 h3, eat])
            · have eat := tk_at_B hlt' hdg (by rw [← he, ← hee']; exact h3)
              refine fin _ (fun q j z => by rw [br_u_n (by omega)]; exact f q j z) (by rw [br_u_n (by omega), a8, hee']) (by rw [br_u_s, eat]; rfl) (fun z => by rw [eat] at z; cases z)
          | succ m ih =>
            intro j J2 hm hij hj hee hall f a8 a11
            have fI : ∀ q j, ¬ (q = 169 ∧ 7 ≤ j ∧ j ≤ 11 ∧ j ≠ 9) → J2 q j = I q j := fun q j z => by rw [f q j (by omega)]; exact hJ q j z
            have a7 : J2 169 7 = nI i := by rw [f 169 7 (by omega)]; exact j7
            have stop : tk_e b N tk_dg (m + 1) j = j → br_r (d + 7) 204 157 [some (.ref 169)] [.int (nI 0)] (br_hp n J2 L) Q := by
              intro hst
              have hee' : j = (tk_at b N i).2 := by rw [← hee]; exact hst.symm
              refine rb_M_next_157 (br_t rfl ?_)
              rw [a8, a7, pk_sub hij, nI_leI (by omega) (by omega)]
              refine ⟨fun h3 => ?_, fun h3 => ?_⟩
              · have eat := tk_at_D hlt' hdg (by rw [← he, ← hee']; exact h3)
                rw [← he, ← hee'] at eat
                refine fin _ (fun q j z => by rw [br_u_n (by omega)]; exact f q j z) (by rw [br_u_n (by omega), a8, hee']) (by rw [br_u_s, eat]; rfl) (fun _ => by rw [br_u_n (by omega), a11 h3, eat])
              · have eat := tk_at_B hlt' hdg (by rw [← he, ← hee']; exact h3)
                refine fin _ (fun q j z => by rw [br_u_n (by omega)]; exact f q j z) (by rw [br_u_n (by omega), a8, hee']) (by rw [br_u_s, eat]; rfl) (fun z => by rw [eat] at z; cases z)
            refine rb_M_next_146 ?_
            rw [a8]
            refine rs_M_see (ho' J2 fI).2.1 (ho' J2 fI).2.2 hj ?_
            by_cases hjN : j < N
            · rw [if_pos hjN]
              have hbj := (h.2 j hjN).1
              refine rb_M_next_154 (rs_M_digit hbj ?_)
              by_cases hd : tk_dg (b j) = true
              · rw [hd]
                have hd48 := of_decide_eq_true hd
                rw [tk_e_T hjN hd] at hee
                have hall2 : ∀ k, i ≤ k → k < j + 1 → tk_dg (b k) = true := fun k h5 h6 => by
                  by_cases e : k = j
                  · rw [e]; exact hd
                  · exact hall k h5 (by omega)
                refine rb_M_next_157 (br_f br_10 ?_)
                rw [a8, a7, pk_sub hij, nI_leI (by omega) (by omega)]
                refine ⟨fun h3 => ?_, fun h3 => ?_⟩
                · rw [nI_add]
                  exact ih (j + 1) _ (by omega) (by omega) hjN hee hall2 (fun q j z => by rw [br_u_n (by omega)]; exact f q j z) br_u_s (fun z => absurd z (by omega))
                · refine rs_M_see (ho' J2 fI).2.1 (ho' J2 fI).2.2 hj ?_
                  rw [if_pos hjN]
                  have hnb := tk_nu_b (b := b) (j - i) i 0 (fun k h5 h6 => hall k h5 (by omega)) (by omega)
                  have hnb2 : tk_nu b (j - i) i 0 ≤ 999 := by
                    rcases (by omega : j - i = 0 ∨ j - i = 1 ∨ j - i = 2) with e | e | e
                    · rw [e] at hnb ⊢; simp at hnb; omega
                    · rw [e] at hnb ⊢; simp at hnb; omega
                    · rw [e] at hnb ⊢; simp at hnb; omega
                  refine rb_M_next_189 ?_
                  rw [a11 (by omega), pk_mul, nI_add, pk_sub (by omega), br_u_n (by omega), a8, nI_add]
                  refine ih (j + 1) _ (by omega) (by omega) hjN hee hall2 (fun q j z => by rw [br_u_n (by omega), br_u_n (by omega)]; exact f q j z) br_u_s (fun z => ?_)
                  rw [br_u_n (by omega), br_u_s, show j + 1 - i = j - i + 1 by omega, tk_nu_s, show i + (j - i) = j by omega]
              · have hd' : tk_dg (b j) = false := by cases hx : tk_dg (b j) with
                  | true => exact absurd hx hd
                  | false => rfl
                rw [hd']
                exact stop (tk_e_F (fun _ => hd') _)
            · rw [if_neg hjN]
              exact rb_M_next_154 (rs_M_digitN (stop (tk_e_F (fun z => absurd z hjN) _)))
        refine loop (N + 1) i _ (by omega) (Nat.le_refl _) (by omega) (by rw [← eN, he]) (fun k h5 h6 => absurd h5 (by omega)) (fun q j z => br_u_n (by omega)) (by rw [br_u_n (by omega)]; exact j8) (fun _ => ?_)
        rw [br_u_s, Nat.sub_self]; rfl
    · rw [Bool.not_eq_false] at hlt
      have eat := tk_at_L (n := N) hlt
      have he : (tk_at b N i).2 = tk_e b N tk_lt N (i + 1) := by rw [eat]
      have eN : tk_e b N tk_lt N (i + 1) = tk_e b N tk_lt (N + 1) i := by rw [tk_e_T hi hlt]
      have loop : ∀ m j (J2 : Nat → Nat → Int32), N ≤ j + m → i ≤ j → j ≤ N → tk_e b N tk_lt m j = (tk_at b N i).2 → (∀ q j, ¬ (q = 169 ∧ j = 8) → J2 q j = J q j) → J2 169 8 = nI j →
          br_r (d + 7) 204 89 [some (.ref 169)] [] (br_hp n J2 L) Q := by
        intro m
        induction m with
        | zero =>
          intro j J2 hm hij hj hee f a8
          have fI : ∀ q j, ¬ (q = 169 ∧ 7 ≤ j ∧ j ≤ 11 ∧ j ≠ 9) → J2 q j = I q j := fun q j z => by rw [f q j (by omega)]; exact hJ q j z
          have hee' : j = (tk_at b N i).2 := hee
          have a7 : J2 169 7 = nI i := by rw [f 169 7 (by omega)]; exact j7
          refine rb_M_next_89 ?_
          rw [a8]
          refine rs_M_see (ho' J2 fI).2.1 (ho' J2 fI).2.2 hj ?_
          rw [if_neg (by omega)]
          refine rb_M_next_97 (rs_M_smallN (rb_M_next_100 (br_t rfl (rs_M_keyAt (ho' J2 fI).1 (ho' J2 fI).2.1 a7 a8 hij hj (rb_M_next_121 (fin _ (fun q j z => by rw [br_u_n (by omega), f q j (by omega)]) ?_ ?_ (fun z => ?_)))))))
          · rw [br_u_n (by omega), a8, hee']
          · rw [br_u_s, eat, ← he, ← hee']
            show _ = nI (tk_k (tk_cw _))
            rw [← tk_cw_k]
            congr 1
            refine tk_ix_c (fun w => ?_) _ _
            have := tk_m_g (b := b) w (j - i) i
            rw [show i + (j - i) = j by omega] at this
            exact this
          · rw [eat] at z
            have z2 : tk_cw (tk_g b (tk_e b N tk_lt N (i + 1) - i) i) = 41 := z
            have := tk_cw_b (tk_g b (tk_e b N tk_lt N (i + 1) - i) i)
            omega
        | succ m ih =>
          intro j J2 hm hij hj hee f a8
          have fI : ∀ q j, ¬ (q = 169 ∧ 7 ≤ j ∧ j ≤ 11 ∧ j ≠ 9) → J2 q j = I q j := fun q j z => by rw [f q j (by omega)]; exact hJ q j z
          have a7 : J2 169 7 = nI i := by rw [f 169 7 (by omega)]; exact j7
          have stop : tk_e b N tk_lt (m + 1) j = j → br_r (d + 7) 204 100 [some (.ref 169)] [.int (nI 0)] (br_hp n J2 L) Q := by
            intro hst
            have hee' : j = (tk_at b N i).2 := by rw [← hee]; exact hst.symm
            refine rb_M_next_100 (br_t rfl (rs_M_keyAt (ho' J2 fI).1 (ho' J2 fI).2.1 a7 a8 hij hj (rb_M_next_121 (fin _ (fun q j z => by rw [br_u_n (by omega), f q j (by omega)]) ?_ ?_ (fun z => ?_)))))
            · rw [br_u_n (by omega), a8, hee']
            · rw [br_u_s, eat, ← he, ← hee']
              show _ = nI (tk_k (tk_cw _))
              rw [← tk_cw_k]
              congr 1
              refine tk_ix_c (fun w => ?_) _ _
              have := tk_m_g (b := b) w (j - i) i
              rw [show i + (j - i) = j by omega] at this
              exact this
            · rw [eat] at z
              have z2 : tk_cw (tk_g b (tk_e b N tk_lt N (i + 1) - i) i) = 41 := z
              have := tk_cw_b (tk_g b (tk_e b N tk_lt N (i + 1) - i) i)
              omega
          refine rb_M_next_89 ?_
          rw [a8]
          refine rs_M_see (ho' J2 fI).2.1 (ho' J2 fI).2.2 hj ?_
          by_cases hjN : j < N
          · rw [if_pos hjN]
            have hbj := (h.2 j hjN).1
            refine rb_M_next_97 (rs_M_small hbj ?_)
            by_cases hd : tk_lt (b j) = true
            · rw [hd]
              rw [tk_e_T hjN hd] at hee
              refine rb_M_next_100 (br_f br_10 ?_)
              rw [a8, nI_add]
              exact ih (j + 1) _ (by omega) (by omega) hjN hee (fun q j z => by rw [br_u_n (by omega)]; exact f q j z) br_u_s
            · have hd' : tk_lt (b j) = false := by cases hx : tk_lt (b j) with
                | true => exact absurd hx hd
                | false => rfl
              rw [hd']
              exact stop (tk_e_F (fun _ => hd') _)
          · rw [if_neg hjN]
            exact rb_M_next_97 (rs_M_smallN (stop (tk_e_F (fun z => absurd z hjN) _)))
      exact loop (N + 1) i J (by omega) (Nat.le_refl _) (by omega) (by rw [← eN, he]) (fun _ _ _ => rfl) j8
  -- blanks
  have blank : ∀ m i (J : Nat → Nat → Int32), N ≤ i + m → i ≤ N → tk_l b N m i = ts → (∀ q j, ¬ (q = 169 ∧ 7 ≤ j ∧ j ≤ 11 ∧ j ≠ 9) → J q j = I q j) → J 169 7 = nI i →
      br_r (d + 7) 204 8 [some (.ref 169)] [] (br_hp n J L) Q := by
    intro m
    have end_ : ∀ i (J : Nat → Nat → Int32), i = N → [] = ts → (∀ q j, ¬ (q = 169 ∧ 7 ≤ j ∧ j ≤ 11 ∧ j ≠ 9) → J q j = I q j) → J 169 7 = nI i → br_r (d + 7) 204 8 [some (.ref 169)] [] (br_hp n J L) Q := by
      intro i J hiN hts hJ j7
      obtain ⟨c1, c2, c3⟩ := ho' J hJ
      refine rb_M_next_8 ?_
      rw [j7]
      refine rs_M_see c2 c3 (by omega) ?_
      rw [if_neg (by omega)]
      refine rb_M_next_16 (br_f (by decide +kernel) ?_)
      rw [j7]
      refine rs_M_see c2 c3 (by omega) ?_
      rw [if_neg (by omega)]
      refine rb_M_next_29 (br_t (by decide +kernel) ?_)
      rw [br_u_n (by omega), br_u_n (by omega), j7, c3]
      refine br_f (nI_nlt (by omega) (by omega)) (H _ (fun q j z => by rw [br_u_n (by omega), br_u_n (by omega)]; exact hJ q j z) ?_)
      have fI : ∀ q j, ¬ (q = 169 ∧ 7 ≤ j ∧ j ≤ 11 ∧ j ≠ 9) → br_u (br_u J 169 8 (nI i)) 169 10 (nI 34) q j = I q j := fun q j z => by rw [br_u_n (by omega), br_u_n (by omega)]; exact hJ q j z
      obtain ⟨g1, g2, g3⟩ := ho' _ fI
      rw [← hts]
      refine ⟨g2, g1, g3, ⟨N, Nat.le_refl _, by rw [br_u_n (by omega), br_u_s, hiN], tk_l_0 (Nat.le_refl _) _⟩, ?_, ?_, fun z => by cases z⟩
      · rw [br_u_n (by omega), br_u_n (by omega), j7, hiN]; rfl
      · rw [br_u_s]; rfl
    induction m with
    | zero =>
      intro i J hm hi hts hJ j7
      exact end_ i J (by omega) hts hJ j7
    | succ m ih =>
      intro i J hm hi hts hJ j7
      by_cases hiN : i < N
      · obtain ⟨c1, c2, c3⟩ := ho' J hJ
        have hb := (h.2 i hiN).1
        have c10 : nI (b i) = nI 10 ↔ b i = 10 := nI_eq (by omega) (by omega)
        have c32 : nI (b i) = nI 32 ↔ b i = 32 := nI_eq (by omega) (by omega)
        have sp : tk_sp (b i) = true → br_r (d + 7) 204 8 [some (.ref 169)] [] (br_hp n (br_u J 169 7 (nI (i + 1))) L) Q := fun hsp =>
          ih (i + 1) _ (by omega) hiN (by rw [← hts, tk_l_S hiN hsp]) (fun q j z => by rw [br_u_n (by omega)]; exact hJ q j z) br_u_s
        refine rb_M_next_8 ?_
        rw [j7]
        refine rs_M_see c2 c3 hi ?_
        rw [if_pos hiN]
        refine rb_M_next_16 ?_
        rw [c10, j7, nI_add]
        refine ⟨fun q => sp (decide_eq_true (Or.inl q)), fun q => rs_M_see c2 c3 hi ?_⟩
        rw [if_pos hiN]
        refine rb_M_next_29 ?_
        rw [c32, br_u_n (by omega), br_u_n (by omega), j7, c3, nI_add]
        refine ⟨fun q2 => br_t (nI_lt hiN (by omega)) ?_, fun q2 => sp (decide_eq_true (Or.inr (Classical.not_not.mp q2)))⟩
        have hns : ¬ tk_sp (b i) = true := fun z => by have := of_decide_eq_true z; omega
        have fI : ∀ q j, ¬ (q = 169 ∧ 7 ≤ j ∧ j ≤ 11 ∧ j ≠ 9) → br_u J 169 8 (nI i) q j = I q j := fun q j z => by rw [br_u_n (by omega)]; exact hJ q j z
        refine rs_M_see (ho' _ fI).2.1 (ho' _ fI).2.2 hi ?_
        rw [if_pos hiN]
        obtain ⟨t1, t2, t3, t4⟩ := tk_at_b (b := b) hiN
        refine rb_M_next_83 (token i _ hiN hns ?_ fI (by rw [br_u_n (by omega)]; exact j7) br_u_s)
        rw [← hts, tk_l_T hiN hns, tk_l_f m N _ (by omega) (by omega)]
      · exact end_ i J (by omega) (by rw [← hts, tk_l_0 (by omega)]) hJ j7
  refine rb_M_next_0 ?_
  rw [e8]
  exact blank N p _ (by omega) hp hl (fun q j z => br_u_n (by omega)) br_u_s
theorem rs_M_next {b : Nat → Nat} {N : Nat} {t : tk_T} {ts : List tk_T} (h : tk_Mr b N (t :: ts) I)
    (H : ∀ J : Nat → Nat → Int32, (∀ q j, ¬ (q = 169 ∧ 7 ≤ j ∧ j ≤ 11) → J q j = I q j) → tk_Mr b N ts J → Q none (br_hp n J L)) :
    br_r (d + 7) 204 0 [some (.ref 169)] [] (br_hp n I L) Q := by
  obtain ⟨a1, a2, a3, ⟨p, a4, a5, a6⟩, a7, a8, a9⟩ := h
  exact rs_M_next0 a2 a1 a3 a4 a5 a6 (fun J h1 h2 => H J (fun q j z => h1 q j (by omega)) h2)
end
