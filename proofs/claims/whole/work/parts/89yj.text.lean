set_option maxRecDepth 100000
set_option maxHeartbeats 4000000
/-! a text: rules -/
theorem pr_ht : ∀ {l : pr_O} {a c : Nat}, pr_p l a c → ∃ H : Nat → Nat, H 0 = a ∧ H l.length = c ∧ ∀ i t, l[i]? = some t → H i ≤ 30 ∧ t.2 ≤ 200 ∧ br_hs t.1 (H i) (H (i + 1))
  | [], a, c, h => ⟨fun _ => a, rfl, h, fun i t e => by cases e⟩
  | t :: l, a, c, ⟨a', q1, q2, q3, q4, q5⟩ => by
    obtain ⟨H, h0, h1, h2⟩ := pr_ht q5
    refine ⟨fun i => Nat.casesOn i a H, rfl, h1, fun i u e => ?_⟩
    cases i with
    | zero =>
      have e : t = u := Option.some.inj e
      rw [← e]
      refine ⟨q1, q3, ?_⟩
      show br_hs t.1 a (H 0)
      rw [h0]; exact q2
    | succ i => exact h2 i u e
theorem pr_rows : ∀ r, r ∈ br_rows → (r.1 = 20 → r.2.1 = 2 ∧ r.2.2.1 = 1 ∧ r.2.2.2.1 = 104 ∧ r.2.2.2.2.1 = 0 ∧ r.2.2.2.2.2 = 12) ∧ (r.1 ≠ 20 → r.1 ≠ 21 ∧ (r.2.2.2.1 + r.2.2.1 ≤ 104 ∨ 629 ≤ r.2.2.2.1) ∧ r.1 ≤ 42 ∧ r.2.2.2.1 + r.2.2.1 ≤ 1389) := by decide +kernel
section
variable {d n : Nat} {Q : br_Q} {xs : Nat → Int32} {I J : Nat → Nat → Int32} {L : Nat → Nat → Int64}
theorem br_W_rules {c : Nat} {os : pr_O} {fr : Nat → Nat} (h : br_W 9 0 I) (hc : c ≤ 12) (h2N : 2 * os.length ≤ 400) (inv : pr_inv c os fr) (h291 : J 29 1 = nI (os.length + c)) (h292 : J 29 2 = nI c)
    (h30 : ∀ r, r < c → (∀ i t, fr r ≤ i → i < fr (r + 1) → os[i]? = some t → J 30 (i + r) = nI (256 * t.1 + t.2)) ∧ J 30 (fr (r + 1) + r) = nI (256 * 18 + 0)) (hm : mR c os fr J)
    (frm : ∀ p j, 9 ≤ p → p ≤ 51 → ¬ (p = 29 ∧ (j = 1 ∨ j = 2)) → p ≠ 30 → J p j = I p j) (fr2 : ∀ k, k < 1389 → k < 104 ∨ 629 ≤ k → J 171 k = I 171 k) : br_W 9 0 J := by
  obtain ⟨w1, ⟨N, R, hN, hR, a1, a2, a3, a4, a5⟩, w3⟩ := h
  obtain ⟨m1, m2, m3⟩ := hm
  refine ⟨fun r hr j hj => ?_, ⟨N, R, hN, hR, ?_, ?_, fun k hk => ?_, fun k q1 q2 => ?_, fun i hi => ?_⟩, ?_⟩
  · obtain ⟨p1, p2⟩ := pr_rows r hr
    by_cases e20 : r.1 = 20
    · obtain ⟨b1, b2, b3, b4, b5⟩ := p1 e20
      have hj0 : j = 0 := by omega
      subst hj0
      rw [e20, b1, b3, b4, b5, show 9 + 20 = 29 by omega, show 0 + (104 + 0) = 104 by omega, show 2 + 0 = 2 by omega, h292, m1, nI_toInt (by omega)]
      exact ⟨rfl, by omega, by omega⟩
    · obtain ⟨b1, b2, b3, b4⟩ := p2 e20
      have := w1 r hr j hj
      rw [Nat.zero_add] at this ⊢
      rw [frm (9 + r.1) (r.2.1 + j) (by omega) (by omega) (by omega) (by omega), fr2 _ (by omega) (by omega)]
      exact this
  · rw [Nat.zero_add] at a1 ⊢; rw [fr2 666 (by omega) (by omega)]; exact a1
  · rw [Nat.zero_add] at a2 ⊢; rw [fr2 629 (by omega) (by omega)]; exact a2
  · obtain ⟨r, q1, q2⟩ := a3 k hk
    refine ⟨r, q1, ?_⟩
    rw [Nat.zero_add] at q2 ⊢
    rw [fr2 (667 + k) (by omega) (by omega)]; exact q2
  · obtain ⟨q3, q4, q5⟩ := a4 k q1 q2
    rw [Nat.zero_add] at q3 q4 ⊢
    rw [Nat.zero_add, fr2 (787 + k) (by omega) (by omega), fr2 (827 + k) (by omega) (by omega)]
    refine ⟨q3, q4, fun t ht => ?_⟩
    have := q5 t ht
    rw [Nat.zero_add] at this ⊢
    rw [fr2 _ (by omega) (by omega)]; exact this
  · have := a5 i hi
    rw [Nat.zero_add] at this ⊢
    rw [fr2 (20 * i) (by omega) (by omega)]; exact this
  · obtain ⟨i1, i2, i3⟩ := inv
    have hh : ∀ r, ∃ H : Nat → Nat, r < c → H 0 = 0 ∧ H (fr (r + 1) - fr r) = 1 ∧ ∀ i t, fr r ≤ i → i < fr (r + 1) → os[i]? = some t → H (i - fr r) ≤ 30 ∧ t.2 ≤ 200 ∧ br_hs t.1 (H (i - fr r)) (H (i + 1 - fr r)) := by
      intro r
      by_cases hr : r < c
      · obtain ⟨g1, g2, g3⟩ := i3 r hr
        obtain ⟨H, h0, h1, h2⟩ := pr_ht g3
        have hl : (List.take (fr (r + 1) - fr r) (List.drop (fr r) os)).length = fr (r + 1) - fr r := by rw [List.length_take, List.length_drop]; omega
        rw [hl] at h1
        refine ⟨H, fun _ => ⟨h0, h1, fun i t q1 q2 e => ?_⟩⟩
        have := h2 (i - fr r) t (by rw [List.getElem?_take_of_lt (by omega), List.getElem?_drop, show fr r + (i - fr r) = i by omega]; exact e)
        rw [show i + 1 - fr r = i - fr r + 1 by omega]
        exact this
      · exact ⟨fun _ => 0, fun z => absurd z hr⟩
    refine ⟨c, fr, fun r i => Classical.choose (hh r) (i - fr r), hc, by rw [Nat.zero_add]; exact m1, i1, ?_, by omega, by omega, fun r hr => ?_⟩
    · rw [show 9 + 20 = 29 by omega, h291, i2]
    · obtain ⟨g1, g2, g3⟩ := i3 r hr
      obtain ⟨k1, k2, k3⟩ := Classical.choose_spec (hh r) hr
      obtain ⟨d1, d2⟩ := h30 r hr
      obtain ⟨e1, e2⟩ := m2 r hr
      refine ⟨g1, by omega, by rw [Nat.zero_add]; exact e1, by rw [Nat.zero_add]; exact e2, ?_, ?_, k2, fun i q1 q2 => ?_⟩
      · rw [show 9 + 21 = 30 by omega, d2]
      · show Classical.choose (hh r) (fr r - fr r) = 0
        rw [Nat.sub_self]; exact k1
      · have e := List.getElem?_eq_getElem (l := os) (i := i) (by omega)
        generalize os[i]'(by omega) = t at e
        obtain ⟨f1, f2, f3⟩ := k3 i t q1 q2 e
        obtain ⟨f4, f5⟩ := m3 i t e
        refine ⟨f1, t.1, t.2, f2, by rw [Nat.zero_add]; exact f4, by rw [Nat.zero_add]; exact f5, ?_, f3⟩
        rw [show 9 + 21 = 30 by omega]; exact d1 i t q1 q2 e
theorem rs_Rules_copyT (H : Q none (br_hp n (br_u (br_u (br_cp I 63 30 0 0 400) 29 1 (I 62 1)) 29 2 (I 62 2)) L)) : br_r d 77 0 [some (.ref 29), some (.ref 62)] [] (br_hp n I L) Q := by
  have e400 : (Int32.ofNat (br_S0 n (br_R0 29 0)).2).toNatClampNeg = 400 := by show (Int32.ofNat 400).toNatClampNeg = 400; decide +kernel
  refine rb_Rules_copy_0 ⟨rfl, rfl, rfl, rfl, by show 8 ≤ 63; omega, by show 8 ≤ 30; omega, by show ¬ Int32.ofNat 400 < 0; decide +kernel, ?_, ?_, ⟨rfl, rfl⟩, rfl, rfl, rfl, rfl, ?_⟩
  · rw [e400]; show 0 + 400 ≤ 400; omega
  · rw [e400]; show 0 + 400 ≤ 400; omega
  rw [e400]
  have c1 : br_cp I 63 30 0 0 400 62 1 = I 62 1 := if_neg (by omega)
  have c2 : br_cp I 63 30 0 0 400 62 2 = I 62 2 := if_neg (by omega)
  show Q none (br_hp n (br_u (br_u (br_cp I 63 30 0 0 400) 29 1 (br_cp I 63 30 0 0 400 62 1)) 29 2 (br_u (br_cp I 63 30 0 0 400) 29 1 (br_cp I 63 30 0 0 400 62 1) 62 2)) L)
  rw [br_u_n (by omega), c1, c2]
  exact H
theorem bp_text_rules (hI : br_Inv xs I L) (x2 : Int32) {T : Nat} (hT : T ≤ 400) (e1 : I 55 1 = nI T) (e2 : I 169 6 = nI T) (e3 : ∀ k, k < T → ∃ b, b < 256 ∧ I 56 k &&& nI 255 = nI b ∧ I 173 k = nI b) (h2 : 0 ≤ x2.toInt ∧ x2.toInt ≤ T) : br_pair n xs 38 203 [some (.ref 8), some (.int (nI 1)), some (.int x2), none] [some (.ref 169), some (.int (nI 1)), some (.int x2), none, none, none] I L := by
  obtain ⟨N, eN, hN⟩ := br_nN h2.1
  subst eN
  have hNT : N ≤ T := by omega
  have ho : br_odx I := br_odx_of hI.2.1.2.2.2.2
  generalize hb : (fun k => (I 173 k).toNatClampNeg) = b
  have hbk : ∀ k, k < N → b k < 256 ∧ I 56 k &&& nI 255 = nI (b k) ∧ I 173 k = nI (b k) := fun k hk => by
    obtain ⟨c, q1, q2, q3⟩ := e3 k (by omega)
    have e : b k = c := by rw [← hb]; show (I 173 k).toNatClampNeg = c; rw [q3, nI_clamp (by omega)]
    rw [e]; exact ⟨q1, q2, q3⟩
  have hA : tk_A b N I := ⟨by omega, fun k hk => ⟨(hbk k hk).1, (hbk k hk).2.1⟩⟩
  have hB : tk_B b N I := ⟨by omega, fun k hk => ⟨(hbk k hk).1, (hbk k hk).2.2⟩⟩
  have t0 : (lN 0).toInt ≤ (nI 1).toInt64.toInt ∧ (nI 1).toInt64.toInt ≤ (lN 1).toInt := by decide +kernel
  have t2 : (lN 0).toInt ≤ (nI N).toInt64.toInt ∧ (nI N).toInt64.toInt ≤ (nI T).toInt64.toInt := by
    rw [nI_l (by omega), nI_l (by omega), pk_lT (by omega), pk_lT (by omega), pk_lT (by omega)]; omega
  intro d Q K
  have model : ∀ (d' : Nat) (Q' : br_Q) (J : Nat → Nat → Int32), J 169 6 = I 169 6 →
      br_r (d' + 80) 203 33 [some (.ref 169), some (.int (nI 1)), some (.int (nI N)), none, none, none] [.int (nI 1)] (br_hp n (br_u J 169 0 (nI 0)) L) Q' →
      br_r (d' + 80) 203 0 [some (.ref 169), some (.int (nI 1)), some (.int (nI N)), none, none, none] [] (br_hp n J L) Q' := by
    intro d' Q' J hJ hr
    refine rb_M_text_0 (rs_wi_T t0 (rb_M_text_12 (br_t br_10 ?_)))
    rw [br_u_n (by omega), hJ, e2]
    exact rs_wi_T t2 hr
  refine rb_A_text_0 (rs_out_F (by decide +kernel) (rb_A_text_6 (br_t rfl ?_)))
  rw [e1]
  refine rs_out_F (by rw [nI_toInt (by omega), nI_toInt (by omega), nI_toInt (by omega)]; omega) (rb_A_text_30 (br_t rfl (br_t br_10 (rs_R_rules (d := d + 50) ho hA e1 hNT hT (fun f hf J1 f1 hfl => rb_A_text_62 (br_f (fun z => z rfl) (rs_refuse (by omega) (rb_A_text_83 ?_)))) (fun y hy J1 f1 h543 h544 D => rb_A_text_62 (br_t br_10 (br_t br_10 (rs_Rules_copyT (rb_A_text_144 ?_)))))))))
  · -- it fell
    generalize hJ2 : br_u (br_u J1 55 1 (nI 0)) 82 1 (br_u J1 55 1 (nI 0) 82 1 + nI 1) = J2
    have f2 : ∀ p j, ¬ (p = 55 ∧ j = 1) → ¬ (p = 82 ∧ j = 1) → J2 p j = J1 p j := fun p j q1 q2 => by rw [← hJ2, br_u_n (by omega), br_u_n (by omega)]
    have c82 : J2 82 1 = I 82 1 + nI 1 := by rw [← hJ2, br_u_s, br_u_n (by omega), f1 82 1 (by omega) (by omega) (by omega)]
    have c55 : J2 55 1 = nI 0 := by rw [← hJ2, br_u_n (by omega), br_u_s]
    have fA : ∀ p j, p ≠ 54 → p ≠ 55 → ¬ (57 ≤ p ∧ p ≤ 63) → ¬ (p = 82 ∧ j = 1) → J2 p j = I p j := fun p j q1 q2 q3 q4 => by rw [f2 p j (by omega) q4]; exact f1 p j (by omega) (by omega) q3
    rw [f2 54 3 (by omega) (by omega), hfl.1]
    refine K _ J2 L (fun j => fA 1 j (by omega) (by omega) (by omega) (by omega)) (fun d' Q' k' => model d' Q' J2 (fA 169 6 (by omega) (by omega) (by omega) (by omega)) ?_)
    refine rs_M_rules (d := d' + 42) (br_odx_c ho (fun p j hp => by rw [br_u_n (by omega), fA p j (by omega) (by omega) (by omega) (by omega)])) (tk_B_c hB (fun j => by rw [br_u_n (by omega), fA 173 j (by omega) (by omega) (by omega) (by omega)])) (fun f' hf' J3 f3 a6 a16 a17 a170 => ?_) (fun y hy => by rw [hf] at hy; cases hy)
    have ef : f' = f := by rw [hf] at hf'; exact (Sum.inl.inj hf').symm
    subst ef
    have fB : ∀ p j, p ≠ 54 → p ≠ 55 → ¬ (57 ≤ p ∧ p ≤ 63) → ¬ (p = 82 ∧ j = 1) → ¬ (p = 169 ∧ (j = 0 ∨ 6 ≤ j ∧ j ≤ 17)) → p ≠ 174 → ¬ (p = 170 ∧ j = 1) → J3 p j = I p j := fun p j q1 q2 q3 q4 q5 q6 q7 => by
      rw [f3 p j (by omega) q6 q7, br_u_n (by omega), fA p j q1 q2 q3 q4]
    refine k' J3 L (br_Inv_t hI (br_W_c hI.1 (fun p j q1 q2 => fB p j (by omega) (by omega) (by omega) (by omega) (by omega) (by omega) (by omega)) (fun k _ => fB 171 _ (by omega) (by omega) (by omega) (by omega) (by omega) (by omega) (by omega))) (fun p j hp => fB p j (by omega) (by omega) (by omega) (by omega) (by omega) (by omega) (by omega)) ?_ a6 ?_ ?_ (fun k hk => ?_) ?_ ?_)
    · rw [f3 55 1 (by omega) (by omega) (by omega), br_u_n (by omega)]; exact c55
    · rw [a16, f3 54 3 (by omega) (by omega) (by omega), br_u_n (by omega), f2 54 3 (by omega) (by omega)]; exact hfl.1
    · rw [a17, f3 54 4 (by omega) (by omega) (by omega), br_u_n (by omega), f2 54 4 (by omega) (by omega)]; exact hfl.2
    · by_cases e : k = 1
      · subst e
        rw [f3 82 1 (by omega) (by omega) (by omega), br_u_n (by omega), c82, a170, br_u_n (by omega), fA 170 1 (by omega) (by omega) (by omega) (by omega), hI.2.2.1 1 (by omega)]
      · rw [fB 82 k (by omega) (by omega) (by omega) (by omega) (by omega) (by omega) (by omega), fB 170 k (by omega) (by omega) (by omega) (by omega) (by omega) (by omega) (by omega)]
        exact hI.2.2.1 k hk
    · exact fB 169 25 (by omega) (by omega) (by omega) (by omega) (by omega) (by omega) (by omega)
    · exact fB 169 26 (by omega) (by omega) (by omega) (by omega) (by omega) (by omega) (by omega)
  · -- it stands
    obtain ⟨y12, yl, yinv⟩ := pr_all_good 13 0 _ [] (fun _ => 0) y 0 (by omega) (by omega) (tk_l_ok (b := b) (n := N) N 0 (Nat.zero_le _)) (Nat.le_refl _) ⟨rfl, rfl, fun r hr => absurd hr (by omega)⟩ hy
    obtain ⟨D1, D2, D3⟩ := D
    generalize hJ2 : br_u (br_u (br_cp (br_u J1 55 1 (nI 0)) 63 30 0 0 400) 29 1 (br_u J1 55 1 (nI 0) 62 1)) 29 2 (br_u J1 55 1 (nI 0) 62 2) = J2
    have cp_n : ∀ p j, ¬ (p = 30 ∧ j < 400) → br_cp (br_u J1 55 1 (nI 0)) 63 30 0 0 400 p j = br_u J1 55 1 (nI 0) p j := fun p j hp => if_neg (by omega)
    have f2 : ∀ p j, ¬ (p = 55 ∧ j = 1) → p ≠ 30 → ¬ (p = 29 ∧ (j = 1 ∨ j = 2)) → J2 p j = J1 p j := fun p j q1 q2 q3 => by rw [← hJ2, br_u_n (by omega), br_u_n (by omega), cp_n p j (by omega), br_u_n (by omega)]
    have c291 : J2 29 1 = nI (y.2.1.length + y.1) := by rw [← hJ2, br_u_n (by omega), br_u_s, br_u_n (by omega), D1]
    have c292 : J2 29 2 = nI y.1 := by rw [← hJ2, br_u_s, br_u_n (by omega), D2]
    have c30 : ∀ j, j < 400 → J2 30 j = J1 63 j := fun j hj => by
      rw [← hJ2, br_u_n (by omega), br_u_n (by omega)]
      have : br_cp (br_u J1 55 1 (nI 0)) 63 30 0 0 400 30 j = br_u J1 55 1 (nI 0) 63 (0 + (j - 0)) := if_pos ⟨rfl, by omega, by omega⟩
      rw [this, br_u_n (by omega), show 0 + (j - 0) = j by omega]
    have c55 : J2 55 1 = nI 0 := by rw [← hJ2, br_u_n (by omega), br_u_n (by omega), cp_n 55 1 (by omega), br_u_s]
    have fA : ∀ p j, p ≠ 54 → p ≠ 55 → ¬ (57 ≤ p ∧ p ≤ 63) → p ≠ 30 → ¬ (p = 29 ∧ (j = 1 ∨ j = 2)) → J2 p j = I p j := fun p j q1 q2 q3 q4 q5 => by rw [f2 p j (by omega) q4 q5]; exact f1 p j (by omega) (by omega) q3
    rw [c292]
    refine K _ J2 L (fun j => fA 1 j (by omega) (by omega) (by omega) (by omega) (by omega)) (fun d' Q' k' => model d' Q' J2 (fA 169 6 (by omega) (by omega) (by omega) (by omega) (by omega)) ?_)
    refine rs_M_rules (d := d' + 42) (br_odx_c ho (fun p j hp => by rw [br_u_n (by omega), fA p j (by omega) (by omega) (by omega) (by omega) (by omega)])) (tk_B_c hB (fun j => by rw [br_u_n (by omega), fA 173 j (by omega) (by omega) (by omega) (by omega) (by omega)])) (fun f' hf' => by rw [hy] at hf'; cases hf') (fun y' hy' J3 f3 a6 a16 a17 mr => ?_)
    have ey : y' = y := by rw [hy] at hy'; exact (Sum.inr.inj hy').symm
    subst ey
    have fB : ∀ p j, p ≠ 54 → p ≠ 55 → ¬ (57 ≤ p ∧ p ≤ 63) → p ≠ 30 → ¬ (p = 29 ∧ (j = 1 ∨ j = 2)) → ¬ (p = 169 ∧ (j = 0 ∨ 6 ≤ j ∧ j ≤ 17)) → p ≠ 174 → ¬ (p = 171 ∧ 104 ≤ j ∧ j < 629) → J3 p j = I p j := fun p j q1 q2 q3 q4 q5 q6 q7 q8 => by
      rw [f3 p j (by omega) q7 q8, br_u_n (by omega), fA p j q1 q2 q3 q4 q5]
    have k2 : ∀ p j, p ≠ 169 → p ≠ 174 → p ≠ 171 → J3 p j = J2 p j := fun p j q1 q2 q3 => by rw [f3 p j (by omega) q2 (by omega), br_u_n (by omega)]
    refine k' J3 L (br_Inv_t hI (br_W_rules hI.1 y12 (by omega) yinv (by rw [k2 29 1 (by omega) (by omega) (by omega)]; exact c291) (by rw [k2 29 2 (by omega) (by omega) (by omega)]; exact c292) (fun r hr => ?_) mr (fun p j q1 q2 q3 q4 => fB p j (by omega) (by omega) (by omega) q4 q3 (by omega) (by omega) (by omega)) (fun k q1 q2 => fB 171 k (by omega) (by omega) (by omega) (by omega) (by omega) (by omega) (by omega) (by omega))) (fun p j hp => fB p j (by omega) (by omega) (by omega) (by omega) (by omega) (by omega) (by omega) (by omega)) ?_ a6 ?_ ?_ (fun k hk => ?_) ?_ ?_)
    · obtain ⟨g1, g2, g3⟩ := yinv.2.2 r hr
      obtain ⟨E1, E2⟩ := D3 r hr
      refine ⟨fun i t q1 q2 e => ?_, ?_⟩
      · rw [k2 30 _ (by omega) (by omega) (by omega), c30 _ (by omega)]; exact E1 i t q1 q2 e
      · rw [k2 30 _ (by omega) (by omega) (by omega), c30 _ (by omega)]; exact E2
    · rw [k2 55 1 (by omega) (by omega) (by omega)]; exact c55
    · rw [a16, k2 54 3 (by omega) (by omega) (by omega), f2 54 3 (by omega) (by omega) (by omega)]; exact h543
    · rw [a17, k2 54 4 (by omega) (by omega) (by omega), f2 54 4 (by omega) (by omega) (by omega)]; exact h544
    · rw [fB 82 k (by omega) (by omega) (by omega) (by omega) (by omega) (by omega) (by omega) (by omega), fB 170 k (by omega) (by omega) (by omega) (by omega) (by omega) (by omega) (by omega) (by omega)]
      exact hI.2.2.1 k hk
    · exact fB 169 25 (by omega) (by omega) (by omega) (by omega) (by omega) (by omega) (by omega) (by omega)
    · exact fB 169 26 (by omega) (by omega) (by omega) (by omega) (by omega) (by omega) (by omega) (by omega)
theorem bp_text (hI : br_Inv xs I L) (x1 : Int32) (x2 : Int32)  : br_pair n xs 38 203 [some (.ref 8), some (.int x1), some (.int x2), none] [some (.ref 169), some (.int x1), some (.int x2), none, none, none] I L := by
  obtain ⟨T, hT, e1, e2, e3⟩ := hI.2.1.2.2.1
  have z0 : (nI 0).toInt = 0 := nI_toInt (by omega)
  have z1 : (nI 1).toInt = 1 := nI_toInt (by omega)
  have zT : (nI T).toInt = T := nI_toInt (by omega)
  have l0 : (lN 0).toInt = 0 := pk_lT (by omega)
  have l1 : (lN 1).toInt = 1 := pk_lT (by omega)
  by_cases h1 : 0 ≤ x1.toInt ∧ x1.toInt ≤ 1
  · by_cases h2 : 0 ≤ x2.toInt ∧ x2.toInt ≤ T
    · obtain ⟨w, rfl, hw⟩ := br_nN h1.1
      rcases (by omega : w = 0 ∨ w = 1) with rfl | rfl
      · exact bp_text_law hI x2 hT e1 e2 e3 h2
      · exact bp_text_rules hI x2 hT e1 e2 e3 h2
    · refine br_pair_no hI (k := 3) (by omega) (v := -(nI 3)) (fun d Q H => ?_) (fun d Q H => ?_)
      · refine rb_A_text_0 (rs_out_F (by rw [z0, z1]; exact h1) (rb_A_text_6 (br_t rfl ?_)))
        rw [e1]
        exact rs_out_T (by rw [z0, zT]; exact h2) (rb_A_text_30 (br_f br_10 (rs_refuse (by omega) (rb_A_text_38 H))))
      · refine rb_M_text_0 (rs_wi_T (by rw [l0, l1, Int32.toInt_toInt64]; exact h1) (rb_M_text_12 (br_t br_10 ?_)))
        rw [br_u_n (by omega), br_u_n (by omega), e2]
        exact rs_wi_F (by rw [l0, Int32.toInt_toInt64, Int32.toInt_toInt64, zT]; exact h2) (rb_M_text_33 (br_f (fun z => z rfl) (rs_no (by omega) (rb_M_text_42 H))))
  · refine br_pair_no hI (k := 2) (by omega) (v := -(nI 2)) (fun d Q H => ?_) (fun d Q H => ?_)
    · exact rb_A_text_0 (rs_out_T (by rw [z0, z1]; exact h1) (rb_A_text_6 (br_f br_10 (rs_refuse (by omega) (rb_A_text_14 H)))))
    · exact rb_M_text_0 (rs_wi_F (by rw [l0, l1, Int32.toInt_toInt64]; exact h1) (rb_M_text_12 (br_f (fun z => z rfl) (rs_no (by omega) (rb_M_text_21 H)))))
end
