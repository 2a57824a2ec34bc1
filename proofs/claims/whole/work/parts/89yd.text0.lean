set_option maxRecDepth 100000
set_option maxHeartbeats 4000000
theorem pl_all_30 {N : Nat} : ∀ (f c : Nat) (ts : List tk_T) (g : Nat → Int32) (y : Nat × (Nat → Int32)), c ≤ 30 → c + f = 31 → pl_all N f c ts g = .inr y → y.1 ≤ 30
  | 0, c, ts, g, y, h, hc, e => by omega
  | f + 1, c, ts, g, y, h, hc, e => by
    have e : (if (tk_hd N ts).1 = 42 then .inr (c, g) else if pl_bad (tk_hd N ts).1 = true then .inl (tk_fail 2 (tk_hd N ts)) else if c = 30 then .inl (tk_fail 4 (tk_hd N ts)) else sb (pl_line N (tk_hd N ts).1 ts.tail g) (fun x => sb (pt_k 44 N x.1) (fun t => pl_all N f (c + 1) t x.2))) = .inr y := e
    by_cases h1 : (tk_hd N ts).1 = 42
    · rw [if_pos h1] at e
      rw [← Sum.inr.inj e]; exact h
    · rw [if_neg h1] at e
      by_cases h2 : pl_bad (tk_hd N ts).1 = true
      · rw [if_pos h2] at e; cases e
      · rw [if_neg h2] at e
        by_cases h3 : c = 30
        · rw [if_pos h3] at e; cases e
        · rw [if_neg h3] at e
          obtain ⟨x, e1, e⟩ := sb_inr e
          obtain ⟨t, e2, e⟩ := sb_inr e
          exact pl_all_30 f (c + 1) t x.2 y (by omega) (by omega) e
theorem pl_g0_ok : pl_ok pl_g0 := by
  have z : (nI 0).toInt = 0 := nI_toInt (by omega)
  have z2 : (nI 200).toInt = 200 := nI_toInt (by omega)
  refine ⟨fun j hj => ?_, fun j hj hj2 => ?_, fun j hj hj2 => ?_⟩
  · unfold pl_g0; rw [if_neg (by omega), z]; omega
  · unfold pl_g0; rw [if_neg (by omega), z]; omega
  · unfold pl_g0
    by_cases e : j = 17
    · subst e; rw [if_pos rfl, z2]; unfold pl_mx; simp
    · rw [if_neg e, z]; omega
def pl_bd (j : Nat) : Int × Int := if j < 5 then (-99, 99) else if j < 11 then (0, 99) else (0, pl_mx j)
theorem pl_rows : ∀ r, r ∈ br_rows → (r.1 = 17 → r.2.2.2.1 = r.2.1 + 1 ∧ r.2.1 + r.2.2.1 ≤ 18 ∧ ∀ j, j < r.2.2.1 → r.2.2.2.2.1 = (pl_bd (r.2.1 + j)).1 ∧ r.2.2.2.2.2 = (pl_bd (r.2.1 + j)).2) ∧ (r.1 = 16 → r.2.1 = 1 ∧ r.2.2.1 = 1 ∧ r.2.2.2.1 = 19 ∧ r.2.2.2.2.1 = 0 ∧ r.2.2.2.2.2 = 30) ∧ (r.1 ≠ 16 → r.1 ≠ 17 → 20 ≤ r.2.2.2.1) := by decide +kernel
theorem pl_bd_ok {g : Nat → Int32} (h : pl_ok g) {j : Nat} (hj : j < 18) : (pl_bd j).1 ≤ (g j).toInt ∧ (g j).toInt ≤ (pl_bd j).2 := by
  obtain ⟨a, b, c⟩ := h
  unfold pl_bd
  by_cases h1 : j < 5
  · rw [if_pos h1]; exact a j h1
  · rw [if_neg h1]
    by_cases h2 : j < 11
    · rw [if_pos h2]; exact b j (by omega) h2
    · rw [if_neg h2]; exact c j (by omega) hj
section
variable {n : Nat} {xs : Nat → Int32} {I J : Nat → Nat → Int32} {L : Nat → Nat → Int64}
theorem br_W_law {g : Nat → Int32} {c : Nat} (h : br_W 9 0 I) (hg : pl_ok g) (hc : c ≤ 30) (h26 : ∀ j, j < 18 → J 26 j = g j) (h25 : J 25 1 = nI c) (h171 : ∀ j, j < 18 → J 171 (j + 1) = g j) (h19 : J 171 19 = nI c) (h0 : J 171 0 = nI 0) (fr : ∀ p j, 9 ≤ p → p ≤ 51 → ¬ (p = 26 ∧ j < 18) → ¬ (p = 25 ∧ j = 1) → J p j = I p j) (fr2 : ∀ k, 20 ≤ k → k < 1389 → J 171 k = I 171 k) : br_W 9 0 J := by
  obtain ⟨w1, ⟨N, R, hN, hR, a1, a2, a3, a4, a5⟩, w3⟩ := h
  refine ⟨fun r hr j hj => ?_, ⟨N, R, hN, hR, ?_, ?_, fun k hk => ?_, fun k q1 q2 => ?_, fun i hi => ?_⟩, br_ru_c w3 ?_ (fun j => fr 30 j (by omega) (by omega) (by omega) (by omega)) (fun k q1 q2 => ?_)⟩
  · obtain ⟨p1, p2, p3⟩ := pl_rows r hr
    have hin := List.all_eq_true.mp br_rows_in r hr
    simp only [Bool.and_eq_true, Bool.or_eq_true, Nat.ble_eq] at hin
    obtain ⟨⟨⟨⟨i1, i2⟩, _⟩, _⟩, _⟩ := hin
    by_cases e17 : r.1 = 17
    · obtain ⟨b1, b2, b3⟩ := p1 e17
      obtain ⟨b4, b5⟩ := b3 j hj
      have hb := pl_bd_ok hg (j := r.2.1 + j) (by omega)
      rw [e17, b1, show 9 + 17 = 26 by omega, h26 (r.2.1 + j) (by omega), show 0 + (r.2.1 + 1 + j) = r.2.1 + j + 1 by omega, h171 (r.2.1 + j) (by omega), b4, b5]
      exact ⟨rfl, hb.1, hb.2⟩
    · by_cases e16 : r.1 = 16
      · obtain ⟨b1, b2, b3, b4, b5⟩ := p2 e16
        have hj0 : j = 0 := by omega
        subst hj0
        rw [e16, b1, b3, b4, b5, show 9 + 16 = 25 by omega, show 0 + (19 + 0) = 19 by omega, show 1 + 0 = 1 by omega, h25, h19, nI_toInt (by omega)]
        exact ⟨rfl, by omega, by omega⟩
      · have b1 := p3 e16 e17
        have := w1 r hr j hj
        rw [Nat.zero_add] at this ⊢
        rw [fr (9 + r.1) (r.2.1 + j) (by omega) (by omega) (by omega) (by omega), fr2 _ (by omega) (by omega)]
        exact this
  · rw [Nat.zero_add] at a1 ⊢; rw [fr2 666 (by omega) (by omega)]; exact a1
  · rw [Nat.zero_add] at a2 ⊢; rw [fr2 629 (by omega) (by omega)]; exact a2
  · obtain ⟨r, q1, q2⟩ := a3 k hk
    refine ⟨r, q1, ?_⟩
    rw [Nat.zero_add] at q2 ⊢
    rw [fr2 (667 + k) (by omega) (by omega)]; exact q2
  · obtain ⟨q3, q4, q5⟩ := a4 k q1 q2
    rw [Nat.zero_add] at q3 q4 ⊢
    rw [Nat.zero_add, fr2 (787 + k) (by omega) (by omega), fr2 (827 + k) (by omega) (by omega)]
    refine ⟨q3, q4, fun t ht => ?_⟩
    have := q5 t ht
    rw [Nat.zero_add] at this ⊢
    rw [fr2 _ (by omega) (by omega)]; exact this
  · rw [Nat.zero_add]
    by_cases e : i = 0
    · subst e; exact h0
    · have := a5 i hi
      rw [Nat.zero_add] at this
      rw [fr2 (20 * i) (by omega) (by omega)]; exact this
  · exact fr 29 1 (by omega) (by omega) (by omega) (by omega)
  · rw [Nat.zero_add]; exact fr2 k (by omega) (by omega)
theorem bp_text_law (hI : br_Inv xs I L) (x2 : Int32) {T : Nat} (hT : T ≤ 400) (e1 : I 55 1 = nI T) (e2 : I 169 6 = nI T) (e3 : ∀ k, k < T → ∃ b, b < 256 ∧ I 56 k &&& nI 255 = nI b ∧ I 173 k = nI b) (h2 : 0 ≤ x2.toInt ∧ x2.toInt ≤ T) : br_pair n xs 38 203 [some (.ref 8), some (.int (nI 0)), some (.int x2), none] [some (.ref 169), some (.int (nI 0)), some (.int x2), none, none, none] I L := by
  obtain ⟨N, eN, hN⟩ := br_nN h2.1
  subst eN
  have hNT : N ≤ T := by omega
  have ho : br_odx I := br_odx_of hI.2.1.2.2.2.2
  generalize hb : (fun k => (I 173 k).toNatClampNeg) = b
  have hbk : ∀ k, k < N → b k < 256 ∧ I 56 k &&& nI 255 = nI (b k) ∧ I 173 k = nI (b k) := fun k hk => by
    obtain ⟨c, q1, q2, q3⟩ := e3 k (by omega)
    have e : b k = c := by rw [← hb]; show (I 173 k).toNatClampNeg = c; rw [q3, nI_clamp (by omega)]
    rw [e]; exact ⟨q1, q2, q3⟩
  have hA : tk_A b N I := ⟨by omega, fun k hk => ⟨(hbk k hk).1, (hbk k hk).2.1⟩⟩
  have hB : tk_B b N I := ⟨by omega, fun k hk => ⟨(hbk k hk).1, (hbk k hk).2.2⟩⟩
  have t0 : (lN 0).toInt ≤ (nI 0).toInt64.toInt ∧ (nI 0).toInt64.toInt ≤ (lN 1).toInt := by decide +kernel
  have t2 : (lN 0).toInt ≤ (nI N).toInt64.toInt ∧ (nI N).toInt64.toInt ≤ (nI T).toInt64.toInt := by
    rw [nI_l (by omega), nI_l (by omega), pk_lT (by omega), pk_lT (by omega), pk_lT (by omega)]; omega
  intro d Q K
  -- the model's side
  have model : ∀ (d' : Nat) (Q' : br_Q) (J : Nat → Nat → Int32), (∀ p j, p ≠ 54 → p ≠ 55 → ¬ (57 ≤ p ∧ p ≤ 63) → p ≠ 25 → p ≠ 26 → p ≠ 82 → J p j = I p j) →
      br_r (d' + 80) 203 33 [some (.ref 169), some (.int (nI 0)), some (.int (nI N)), none, none, none] [.int (nI 1)] (br_hp n (br_u J 169 0 (nI 0)) L) Q' →
      br_r (d' + 80) 203 0 [some (.ref 169), some (.int (nI 0)), some (.int (nI N)), none, none, none] [] (br_hp n J L) Q' := by
    intro d' Q' J hJ hr
    refine rb_M_text_0 (rs_wi_T t0 (rb_M_text_12 (br_t br_10 ?_)))
    rw [br_u_n (by omega), hJ 169 6 (by omega) (by omega) (by omega) (by omega) (by omega) (by omega), e2]
    exact rs_wi_T t2 hr
  refine rb_A_text_0 (rs_out_F (by decide +kernel) (rb_A_text_6 (br_t rfl ?_)))
  rw [e1]
  refine rs_out_F (by rw [nI_toInt (by omega), nI_toInt (by omega), nI_toInt (by omega)]; omega) (rb_A_text_30 (br_t rfl (br_f (fun z => z rfl) (rs_R_law (d := d + 68) ho hA e1 hNT hT (fun f hf J1 f1 hfl => rb_A_text_51 (rb_A_text_62 (br_f (fun z => z rfl) (rs_refuse (by omega) (rb_A_text_83 ?_))))) (fun y hy J1 f1 hfl h544 g1 h60 => rb_A_text_51 (rb_A_text_62 (br_t br_10 (br_f (fun z => z rfl) (rs_Law_copy br_lwK ⟨rfl, rfl, rfl, by omega⟩ (rb_A_text_116 ?_))))))))))
  · -- it fell
    generalize hJ2 : br_u (br_u J1 55 1 (nI 0)) 82 1 (br_u J1 55 1 (nI 0) 82 1 + nI 1) = J2
    have f2 : ∀ p j, ¬ (p = 55 ∧ j = 1) → ¬ (p = 82 ∧ j = 1) → J2 p j = J1 p j := fun p j q1 q2 => by rw [← hJ2, br_u_n (by omega), br_u_n (by omega)]
    have c82 : J2 82 1 = I 82 1 + nI 1 := by rw [← hJ2, br_u_s, br_u_n (by omega), f1 82 1 (by omega) (by omega) (by omega)]
    have c55 : J2 55 1 = nI 0 := by rw [← hJ2, br_u_n (by omega), br_u_s]
    have fA : ∀ p j, p ≠ 54 → p ≠ 55 → ¬ (57 ≤ p ∧ p ≤ 63) → ¬ (p = 82 ∧ j = 1) → J2 p j = I p j := fun p j q1 q2 q3 q4 => by rw [f2 p j (by omega) q4]; exact f1 p j (by omega) (by omega) q3
    rw [f2 54 3 (by omega) (by omega), hfl.1]
    refine K _ J2 L (fun j => fA 1 j (by omega) (by omega) (by omega) (by omega)) (fun d' Q' k' => model d' Q' J2 (fun p j q1 q2 q3 _ _ q4 => fA p j q1 q2 q3 (by omega)) ?_)
    refine rs_M_law (d := d' + 69) (br_odx_c ho (fun p j hp => by rw [br_u_n (by omega), fA p j (by omega) (by omega) (by omega) (by omega)])) (tk_B_c hB (fun j => by rw [br_u_n (by omega), fA 173 j (by omega) (by omega) (by omega) (by omega)])) (fun f' hf' J3 f3 a6 a16 a17 a170 => ?_) (fun y hy => by rw [hf] at hy; cases hy)
    have ef : f' = f := by rw [hf] at hf'; exact (Sum.inl.inj hf').symm
    subst ef
    have fB : ∀ p j, p ≠ 54 → p ≠ 55 → ¬ (57 ≤ p ∧ p ≤ 63) → ¬ (p = 82 ∧ j = 1) → ¬ (p = 169 ∧ (j = 0 ∨ 6 ≤ j ∧ j ≤ 17)) → p ≠ 174 → ¬ (p = 170 ∧ j = 1) → J3 p j = I p j := fun p j q1 q2 q3 q4 q5 q6 q7 => by
      rw [f3 p j (by omega) q6 q7, br_u_n (by omega), fA p j q1 q2 q3 q4]
    refine k' J3 L (br_Inv_t hI (br_W_c hI.1 (fun p j q1 q2 => fB p j (by omega) (by omega) (by omega) (by omega) (by omega) (by omega) (by omega)) (fun k _ => fB 171 _ (by omega) (by omega) (by omega) (by omega) (by omega) (by omega) (by omega))) (fun p j hp => fB p j (by omega) (by omega) (by omega) (by omega) (by omega) (by omega) (by omega)) ?_ a6 ?_ ?_ (fun k hk => ?_) ?_ ?_)
    · rw [f3 55 1 (by omega) (by omega) (by omega), br_u_n (by omega)]; exact c55
    · rw [a16, f3 54 3 (by omega) (by omega) (by omega), br_u_n (by omega), f2 54 3 (by omega) (by omega)]; exact hfl.1
    · rw [a17, f3 54 4 (by omega) (by omega) (by omega), br_u_n (by omega), f2 54 4 (by omega) (by omega)]; exact hfl.2
    · by_cases e : k = 1
      · subst e
        rw [f3 82 1 (by omega) (by omega) (by omega), br_u_n (by omega), c82, a170, br_u_n (by omega), fA 170 1 (by omega) (by omega) (by omega) (by omega), hI.2.2.1 1 (by omega)]
      · rw [fB 82 k (by omega) (by omega) (by omega) (by omega) (by omega) (by omega) (by omega), fB 170 k (by omega) (by omega) (by omega) (by omega) (by omega) (by omega) (by omega)]
        exact hI.2.2.1 k hk
    · exact fB 169 25 (by omega) (by omega) (by omega) (by omega) (by omega) (by omega) (by omega)
    · exact fB 169 26 (by omega) (by omega) (by omega) (by omega) (by omega) (by omega) (by omega)
  · -- it stands
    have okk := pl_all_ok 31 0 _ _ _ pl_g0_ok (by omega) hy
    have ok30 := pl_all_30 31 0 _ _ _ (by omega) (by omega) hy
    generalize hJ2 : br_u (br_cp (br_u J1 55 1 (nI 0)) (60 + 1) (25 + 1) 0 0 18) 25 1 (br_cp (br_u J1 55 1 (nI 0)) (60 + 1) (25 + 1) 0 0 18 60 1) = J2
    have cp_n : ∀ p j, ¬ (p = 26 ∧ j < 18) → br_cp (br_u J1 55 1 (nI 0)) (60 + 1) (25 + 1) 0 0 18 p j = br_u J1 55 1 (nI 0) p j := fun p j hp => if_neg (by omega)
    have f2 : ∀ p j, ¬ (p = 55 ∧ j = 1) → ¬ (p = 26 ∧ j < 18) → ¬ (p = 25 ∧ j = 1) → J2 p j = J1 p j := fun p j q1 q2 q3 => by rw [← hJ2, br_u_n (by omega), cp_n p j q2, br_u_n (by omega)]
    have c25 : J2 25 1 = nI y.1 := by rw [← hJ2, br_u_s, cp_n 60 1 (by omega), br_u_n (by omega), h60]
    have c26 : ∀ j, j < 18 → J2 26 j = y.2 j := fun j hj => by
      rw [← hJ2, br_u_n (by omega)]
      have : br_cp (br_u J1 55 1 (nI 0)) (60 + 1) (25 + 1) 0 0 18 26 j = br_u J1 55 1 (nI 0) 61 (0 + (j - 0)) := if_pos ⟨rfl, by omega, by omega⟩
      rw [this, br_u_n (by omega), show 0 + (j - 0) = j by omega]
      exact g1 j hj
    have c55 : J2 55 1 = nI 0 := by rw [← hJ2, br_u_n (by omega), cp_n 55 1 (by omega), br_u_s]
    have fA : ∀ p j, p ≠ 54 → p ≠ 55 → ¬ (57 ≤ p ∧ p ≤ 63) → ¬ (p = 26 ∧ j < 18) → ¬ (p = 25 ∧ j = 1) → J2 p j = I p j := fun p j q1 q2 q3 q4 q5 => by rw [f2 p j (by omega) q4 q5]; exact f1 p j (by omega) (by omega) q3
    rw [c25]
    refine K _ J2 L (fun j => fA 1 j (by omega) (by omega) (by omega) (by omega) (by omega)) (fun d' Q' k' => model d' Q' J2 (fun p j q1 q2 q3 q4 q5 _ => fA p j q1 q2 q3 (by omega) (by omega)) ?_)
    refine rs_M_law (d := d' + 69) (br_odx_c ho (fun p j hp => by rw [br_u_n (by omega), fA p j (by omega) (by omega) (by omega) (by omega) (by omega)])) (tk_B_c hB (fun j => by rw [br_u_n (by omega), fA 173 j (by omega) (by omega) (by omega) (by omega) (by omega)])) (fun f' hf' => by rw [hy] at hf'; cases hf') (fun y' hy' J3 f3 a6 a16 a17 a0 a171 a19 => ?_)
    have ey : y' = y := by rw [hy] at hy'; exact (Sum.inr.inj hy').symm
    subst ey
    have fB : ∀ p j, p ≠ 54 → p ≠ 55 → ¬ (57 ≤ p ∧ p ≤ 63) → ¬ (p = 26 ∧ j < 18) → ¬ (p = 25 ∧ j = 1) → ¬ (p = 169 ∧ (j = 0 ∨ 6 ≤ j ∧ j ≤ 17)) → p ≠ 174 → ¬ (p = 171 ∧ j < 20) → J3 p j = I p j := fun p j q1 q2 q3 q4 q5 q6 q7 q8 => by
      rw [f3 p j (by omega) q7 q8, br_u_n (by omega), fA p j q1 q2 q3 q4 q5]
    have k2 : ∀ p j, p ≠ 169 → p ≠ 174 → p ≠ 171 → J3 p j = J2 p j := fun p j q1 q2 q3 => by rw [f3 p j (by omega) q2 (by omega), br_u_n (by omega)]
    refine k' J3 L (br_Inv_t hI (br_W_law hI.1 okk.1 ok30 (fun j hj => by rw [k2 26 j (by omega) (by omega) (by omega)]; exact c26 j hj) (by rw [k2 25 1 (by omega) (by omega) (by omega)]; exact c25) a171 a19 a0 (fun p j q1 q2 q3 q4 => fB p j (by omega) (by omega) (by omega) q3 q4 (by omega) (by omega) (by omega)) (fun k q1 q2 => fB 171 k (by omega) (by omega) (by omega) (by omega) (by omega) (by omega) (by omega) (by omega))) (fun p j hp => fB p j (by omega) (by omega) (by omega) (by omega) (by omega) (by omega) (by omega) (by omega)) ?_ a6 ?_ ?_ (fun k hk => ?_) ?_ ?_)
    · rw [k2 55 1 (by omega) (by omega) (by omega)]; exact c55
    · rw [a16, k2 54 3 (by omega) (by omega) (by omega), f2 54 3 (by omega) (by omega) (by omega), ← hfl.1, br_u_n (by omega)]
    · rw [a17, k2 54 4 (by omega) (by omega) (by omega), f2 54 4 (by omega) (by omega) (by omega)]; exact h544
    · rw [fB 82 k (by omega) (by omega) (by omega) (by omega) (by omega) (by omega) (by omega) (by omega), fB 170 k (by omega) (by omega) (by omega) (by omega) (by omega) (by omega) (by omega) (by omega)]
      exact hI.2.2.1 k hk
    · exact fB 169 25 (by omega) (by omega) (by omega) (by omega) (by omega) (by omega) (by omega) (by omega)
    · exact fB 169 26 (by omega) (by omega) (by omega) (by omega) (by omega) (by omega) (by omega) (by omega)
end
