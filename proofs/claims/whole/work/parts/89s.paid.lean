set_option maxRecDepth 100000
set_option maxHeartbeats 4000000
/-! looks, paid -/
noncomputable def lk_n (S : lk_S) : Int64 := S.2.2.1 * lN S.1
noncomputable def lk_pu (S : lk_S) : Int64 := if S.1 = 0 then lN 0 else if (lk_n S).toInt < S.2.2.2.toInt then bf_u (lk_n S) S.2.2.2 else bf_u (lN 1) (lN 1)
noncomputable def lk_pl (S : lk_S) : Int64 := if S.1 = 0 then lN 0 else if (lk_n S).toInt < S.2.2.2.toInt then bf_l (lk_n S) S.2.2.2 else bf_l (lN 1) (lN 1)
theorem lk_p0 {S : lk_S} (h : S.1 = 0) : lk_pu S = lN 0 ∧ lk_pl S = lN 0 := by unfold lk_pu lk_pl; rw [if_pos h, if_pos h]; exact ⟨rfl, rfl⟩
theorem lk_p1 {S : lk_S} (h : ¬ S.1 = 0) (h2 : (lk_n S).toInt < S.2.2.2.toInt) : lk_pu S = bf_u (lk_n S) S.2.2.2 ∧ lk_pl S = bf_l (lk_n S) S.2.2.2 := by unfold lk_pu lk_pl; rw [if_neg h, if_neg h, if_pos h2, if_pos h2]; exact ⟨rfl, rfl⟩
theorem lk_p2 {S : lk_S} (h : ¬ S.1 = 0) (h2 : ¬ (lk_n S).toInt < S.2.2.2.toInt) : lk_pu S = bf_u (lN 1) (lN 1) ∧ lk_pl S = bf_l (lN 1) (lN 1) := by unfold lk_pu lk_pl; rw [if_neg h, if_neg h, if_neg h2, if_neg h2]; exact ⟨rfl, rfl⟩
theorem lk_nb {S : lk_S} (h : lk_ok S 30) (h0 : 0 < S.1) : (lk_n S).toInt.natAbs ≤ 32985348833280 := by
  obtain ⟨h1, h2, h3⟩ := h
  obtain ⟨j1, j2, j3, j4⟩ := h3 h0
  have e : (lN S.1).toInt = S.1 := pk_lT (by omega)
  have m := bc_mulB j4 (show (lN S.1).toInt.natAbs ≤ 30 by omega)
  unfold lk_n
  rw [br_lmulT (by omega) (by omega)]
  omega
theorem lk_pb {S : lk_S} (h : lk_ok S 30) (h0 : 0 < S.1) : 0 < (lk_pl S).toInt ∧ (lk_pl S).toInt ≤ 1099511627776 ∧ (lk_pu S).toInt.natAbs ≤ 32985348833280 := by
  have hn := lk_nb h h0
  obtain ⟨h1, h2, h3⟩ := h
  obtain ⟨j1, j2, j3, j4⟩ := h3 h0
  have t1 : (lN 1).toInt = 1 := pk_lT (by omega)
  by_cases hx : (lk_n S).toInt < S.2.2.2.toInt
  · obtain ⟨e1, e2⟩ := lk_p1 (by omega) hx
    have q1 := bf_l_pos (u := lk_n S) j2
    have q2 := bf_u_abs (u := lk_n S) (l := S.2.2.2) (by omega)
    rw [e1, e2]; omega
  · obtain ⟨e1, e2⟩ := lk_p2 (by omega) hx
    have q1 := bf_l_pos (u := lN 1) (l := lN 1) (by omega)
    have q2 := bf_u_abs (u := lN 1) (l := lN 1) (by omega)
    rw [e1, e2]; omega
theorem lk_told {S : lk_S} (h : lk_ok S 30) : 0 < (lk_pl S).toInt ↔ 0 < S.1 := by
  refine ⟨fun z => Nat.pos_of_ne_zero (fun e => ?_), fun z => (lk_pb h z).1⟩
  rw [(lk_p0 e).2, pk_lT (by omega)] at z; omega
theorem lk_nn {S : lk_S} (h : lk_ok S 30) : 0 ≤ (lk_pl S).toInt := by
  by_cases z : 0 < S.1
  · have := (lk_pb h z).1; omega
  · rw [(lk_p0 (by omega)).2, pk_lT (by omega)]; omega
section
variable {d n : Nat} {Q : br_Q} {I J : Nat → Nat → Int32} {L : Nat → Nat → Int64} {g : Nat → Int32} {N : Nat}
theorem rs_A_pay {p : Nat} (hp : p = 72 ∨ p = 73) (hW : br_W 9 0 I) (hg : I 171 = g) (hN : N ≤ 40) (eN : g 666 = nI N) (hroom : ∀ c, c < N → ∃ r, r < 18 ∧ g (667 + c) = nI r)
    (H : ∀ (J : Nat → Nat → Int32) (L' : Nat → Nat → Int64), (∀ p j, ¬ (64 ≤ p ∧ p ≤ 71) → J p j = I p j) → (∀ q j, q ≠ 70 → q ≠ 74 → q ≠ p → L' q j = L q j) → L' p 0 = lk_pu (lk_al g N 6) → L' p 1 = lk_pl (lk_al g N 6) → Q none (br_hp n J L')) :
    br_r (d + 7) 145 0 [some (.ref 8), some (.ref p)] [] (br_hp n I L) Q := by
  have hS : br_S0 n p = (0, 1) := by rcases hp with rfl | rfl <;> rfl
  have ok := lk_al_ok (g := g) hN 6 (Nat.le_refl _)
  refine rb_A_payForLooks_0 (rs_A_findBest hp hW hg hN eN hroom (fun J1 L1 hJ1 hL1 e0 e1 => rb_A_payForLooks_5 ⟨hS, rs_isNone hS (rb_A_payForLooks_10 ?_)⟩))
  have g1 : J1 171 = g := by rw [← hg]; funext j; exact hJ1 171 j (by omega)
  have hW1 : br_W 9 0 J1 := br_W_c hW (fun p j h1 h2 => hJ1 p j (by omega)) (fun k _ => hJ1 171 _ (by omega))
  have cl := fun Q => rs_A_countLooks (d := d + 2) (n := n) (Q := Q) (L := L1) (z1 := none) (z2 := none) (z3 := none) hW1 g1 hN eN
  generalize lk_al g N 6 = S at *
  have ok' := ok
  obtain ⟨k1, k2, k3⟩ := ok
  rw [bn_0, e1]
  refine ⟨fun h => rb_A_payForLooks_38 (H J1 L1 hJ1 hL1 ?_ ?_), fun h => ⟨hS, cl _ (fun J2 hJ2 => rb_A_payForLooks_22 ⟨hS, ?_⟩)⟩⟩
  · have z : S.1 = 0 := Classical.byContradiction (fun z => h (k3 (Nat.pos_of_ne_zero z)).2.1)
    rw [e0, (lk_p0 z).1, k2 z]
  · have z : S.1 = 0 := Classical.byContradiction (fun z => h (k3 (Nat.pos_of_ne_zero z)).2.1)
    rw [e1, (lk_p0 z).2, k2 z]
  · have h' : 0 < S.2.2.2.toInt := Classical.not_not.mp h
    have hc : 0 < S.1 := Nat.pos_of_ne_zero (fun z => by
      have e2 := k2 z
      have h6 : 0 < (lN 0).toInt := by rw [e2] at h'; exact h'
      rw [pk_lT (by omega)] at h6
      omega)
    have hn := lk_nb ok' hc
    have fJ : ∀ p j, ¬ (64 ≤ p ∧ p ≤ 71) → J2 p j = I p j := fun p j hp => by rw [hJ2 p (by omega)]; exact hJ1 p j hp
    rw [nI_l (by omega), e0, e1]
    have en : S.2.2.1 * lN S.1 = lk_n S := rfl
    rw [en]
    have fin : ∀ m : Int64, -9223372036854775808 < m.toInt → bf_u m S.2.2.2 = lk_pu S → bf_l m S.2.2.2 = lk_pl S → br_r (d + 7) 145 31 [some (.ref 8), some (.ref p)] [.long m, .ref p] (br_hp n J2 L1) Q := by
      intro m hm a1 a2
      refine rb_A_payForLooks_31 ⟨hS, hS, ?_⟩
      rw [e1]
      refine rs_become hS hm (rb_A_payForLooks_38 (H J2 _ fJ (fun q j q1 q2 q3 => ?_) ?_ ?_))
      · rw [br_u_n (by omega), br_u_n (by omega)]; exact hL1 q j q1 q2 q3
      · rw [br_u_n (by omega), br_u_s, a1]
      · rw [br_u_s, a2]
    have t1 : (lN 1).toInt = 1 := pk_lT (by omega)
    have sc := bf_scale (u := lN 1) (l := lN 1) (u' := S.2.2.2) (l' := S.2.2.2) (k := S.2.2.2.toInt.toNat) (by omega) (by omega) (by omega) (by omega) (by rw [t1]; omega) (by rw [t1]; omega)
    refine rb_Math_min_JJ_0 ⟨fun h5 => fin _ (by omega) ?_ ?_, fun h5 => fin _ (by omega) ?_ ?_⟩
    · rw [br_cmp1, br_ltJ] at h5
      rw [sc.1, (lk_p2 (by omega) (by omega)).1]
    · rw [br_cmp1, br_ltJ] at h5
      rw [sc.2, (lk_p2 (by omega) (by omega)).2]
    · rw [br_cmp1, br_ltJ] at h5
      by_cases hx : (lk_n S).toInt < S.2.2.2.toInt
      · rw [(lk_p1 (by omega) hx).1]
      · have e5 : lk_n S = S.2.2.2 := Int64.toInt_inj.mp (by omega)
        rw [e5, sc.1, (lk_p2 (by omega) hx).1]
    · rw [br_cmp1, br_ltJ] at h5
      by_cases hx : (lk_n S).toInt < S.2.2.2.toInt
      · rw [(lk_p1 (by omega) hx).2]
      · have e5 : lk_n S = S.2.2.2 := Int64.toInt_inj.mp (by omega)
        rw [e5, sc.2, (lk_p2 (by omega) hx).2]
theorem rs_M_pay {R m0 : Nat} {ht : Nat → Nat → Nat} {z1 z2 : Option Value} (hg : J 171 = g) (hW : br_W 9 0 I) (hgI : I 171 = g) (hrg : br_rg g m0 ht) (hN : N ≤ 40) (eN : g 666 = nI N) (eR : g 629 = nI R) (hR : R ≤ 18) (hroom : ∀ c, c < N → ∃ r, r < R ∧ g (667 + c) = nI r) (hw : br_wy J L)
    (H : ∀ (J' : Nat → Nat → Int32) (L' : Nat → Nat → Int64), (∀ p j, ¬ (p = 169 ∧ 24 ≤ j) → p ≠ 175 → p ≠ 176 → J' p j = J p j) → (∀ q j, q ≠ 177 → q ≠ 169 → L' q j = L q j) → br_wy J' L' → L' 169 19 = lk_pu (lk_al g N 6) → L' 169 20 = lk_pl (lk_al g N 6) → Q (some (.int (nI (decide (0 < (lk_al g N 6).1)).toNat))) (br_hp n J' L')) :
    br_r (d + 6) 266 0 [some (.ref 169), z1, z2] [] (br_hp n J L) Q := by
  have ok := lk_al_ok (g := g) hN 6 (Nat.le_refl _)
  have z0 : (lN 0).toInt = 0 := pk_lT (by omega)
  have t1 : (lN 1).toInt = 1 := pk_lT (by omega)
  refine rb_M_tellsPaid_0 (rs_M_findsLooks hg hW hgI hrg hN eN eR hR hroom hw (fun J1 L1 hJ1 hL1 wy1 e28 e29 e30 => rb_M_tellsPaid_4 ?_))
  generalize lk_al g N 6 = S at *
  have ok' := ok
  obtain ⟨k1, k2, k3⟩ := ok
  have out : ∀ u l : Int64, u = lk_pu S → l = lk_pl S → Q (some (.int (nI (decide (0 < S.1)).toNat))) (br_hp n J1 (br_u (br_u L1 169 19 u) 169 20 l)) := fun u l a1 a2 =>
    H J1 _ hJ1 (fun q j q1 q2 => by rw [br_u_n (by omega), br_u_n (by omega)]; exact hL1 q j q1 q2) (br_wy_c wy1 rfl rfl (fun j => by rw [br_u_n (by omega), br_u_n (by omega)])) (by rw [br_u_n (by omega), br_u_s, a1]) (by rw [br_u_s, a2])
  rw [e28, nI_eq (a := S.1) (b := 0) (by omega) (by omega), nI_l (by omega)]
  refine ⟨fun h => ?_, fun h => ?_⟩
  · have hc : 0 < S.1 := Nat.pos_of_ne_zero h
    obtain ⟨j1, j2, j3, j4⟩ := k3 hc
    obtain ⟨l1, l2⟩ := e30 hc
    have hn := lk_nb ok' hc
    rw [l1, l2]
    have en : S.2.2.1 * lN S.1 = lk_n S := rfl
    rw [en, br_cmp0, br_ltJ]
    rw [decide_eq_true hc] at out
    refine ⟨fun hx => rs_M_tells (by omega) (by omega) (rb_M_tellsPaid_56 ?_), fun hx => rs_M_tells (by omega) (by omega) (rb_M_tellsPaid_44 (rb_M_tellsPaid_56 ?_))⟩
    · rw [decide_eq_true j2]
      exact out _ _ (lk_p1 h hx).1.symm (lk_p1 h hx).2.symm
    · rw [decide_eq_true (show 0 < (lN 1).toInt by omega)]
      exact out _ _ (lk_p2 h hx).1.symm (lk_p2 h hx).2.symm
  · have hz : S.1 = 0 := Classical.not_not.mp h
    refine rs_M_tells (by omega) (by omega) (rb_M_tellsPaid_17 ?_)
    rw [decide_eq_false (show ¬ 0 < (lN 0).toInt by omega)]
    rw [decide_eq_false (show ¬ 0 < S.1 by omega)] at out
    exact out _ _ (by rw [(lk_p0 hz).1]; exact bf_uF (by omega)) (by rw [(lk_p0 hz).2]; exact bf_lF (by omega))
end
section
variable {n : Nat} {xs : Nat → Int32} {I : Nat → Nat → Int32} {L : Nat → Nat → Int64}
theorem bp_paid (hI : br_Inv xs I L)   : br_pair n xs 144 265 [some (.ref 8)] [some (.ref 169)] I L := by
  obtain ⟨N, R, hN, hR, eN, eR, a3, a4, a5⟩ := hI.1.2.1
  rw [Nat.zero_add] at eN eR
  have cN : I 9 8 = nI N := (bi_children hI.1.1).trans eN
  have cR : I 9 2 = nI R := (bi_rooms hI.1.1).trans eR
  obtain ⟨m, ht, hrg⟩ := br_rg_of hI.1.2.2
  have hroom := br_room18 hI hN eN
  have hrR : ∀ c, c < N → ∃ r, r < R ∧ I 171 (667 + c) = nI r := fun c hc => by
    obtain ⟨r, q1, q2⟩ := a3 c hc
    rw [Nat.zero_add] at q2
    exact ⟨r, q1, q2⟩
  have ok := lk_al_ok (g := I 171) hN 6 (Nat.le_refl _)
  intro d Q K
  refine rb_A_paid_0 (rs_A_pay (p := 72) (d := d + 72) (Or.inl rfl) hI.1 rfl hN eN hroom (fun J1 L1 hJ1 hL1 e0 e1 => rb_A_paid_8 (rs_isNone rfl (rb_A_paid_15 ?_))))
  rw [e1, bn_0, lk_told ok]
  have j171 : br_u J1 169 0 (nI 0) 171 = I 171 := by rw [br_u_q (by omega)]; funext j; exact hJ1 171 j (by omega)
  have wy : br_wy (br_u J1 169 0 (nI 0)) L1 := br_wy_c hI.2.2.2.2 (by rw [br_u_n (by omega)]; exact hJ1 169 25 (by omega)) (by rw [br_u_n (by omega)]; exact hJ1 169 26 (by omega)) (fun j => hL1 177 j (by omega) (by omega) (by omega))
  have fin : Q (some (.int (nI (decide (0 < (lk_al (I 171) N 6).1)).toNat))) (br_hp n J1 L1) := by
    refine K _ J1 L1 (fun j => hJ1 1 j (by omega)) (fun d' Q' k' => rb_M_paid_0 (rs_M_pay (d := d' + 73) j171 hI.1 rfl hrg hN eN eR hR hrR wy (fun J4 L4 hJ4 hL4 wy4 f0 f1 => rb_M_paid_9 (k' J4 L4 (br_Inv_a hI (fun p j hp => ?_) (fun p j q1 q2 q3 => ?_) ?_ ?_ ?_ wy4)))))
    · unfold br_scA at hp
      rw [hJ4 p j (by omega) (by omega) (by omega), br_u_n (by omega), hJ1 p j (by omega)]
    · rw [hL4 p j q3 q2, hL1 p j (by omega) (by omega) (by omega)]
    · rw [hL4 72 0 (by omega) (by omega), e0, f0]
    · rw [hL4 72 1 (by omega) (by omega), e1, f1]
    · rw [hL4 72 1 (by omega) (by omega), e1]; exact lk_nn ok
  refine ⟨fun h => ?_, fun h => ?_⟩
  · rw [decide_eq_true h] at fin; exact fin
  · rw [decide_eq_false h] at fin; exact fin
theorem bp_looks (hI : br_Inv xs I L) (x1 : Int32)  : br_pair n xs 137 261 [some (.ref 8), some (.int x1)] [some (.ref 169), some (.int x1), none, none, none, none] I L := by
  obtain ⟨N, R, hN, hR, eN, eR, a3, a4, a5⟩ := hI.1.2.1
  rw [Nat.zero_add] at eN eR
  have cN : I 9 8 = nI N := (bi_children hI.1.1).trans eN
  have cR : I 9 2 = nI R := (bi_rooms hI.1.1).trans eR
  by_cases h1 : 0 ≤ x1.toInt ∧ x1.toInt ≤ 1
  · obtain ⟨m, ht, hrg⟩ := br_rg_of hI.1.2.2
    have hroom := br_room18 hI hN eN
    have hrR : ∀ c, c < N → ∃ r, r < R ∧ I 171 (667 + c) = nI r := fun c hc => by
      obtain ⟨r, q1, q2⟩ := a3 c hc
      rw [Nat.zero_add] at q2
      exact ⟨r, q1, q2⟩
    have t1 : (nI 0).toInt ≤ x1.toInt ∧ x1.toInt ≤ (nI 1).toInt := by
      rw [nI_toInt (show 0 < 2 ^ 31 by omega), nI_toInt (show 1 < 2 ^ 31 by omega)]; exact h1
    have t2 : (lN 0).toInt ≤ x1.toInt64.toInt ∧ x1.toInt64.toInt ≤ (lN 1).toInt := by
      rw [pk_lT (by omega), pk_lT (by omega), Int32.toInt_toInt64]; exact h1
    intro d Q K
    have fin : ∀ (J1 : Nat → Nat → Int32) (L1 : Nat → Nat → Int64) (v : Int32), (∀ p j, ¬ (64 ≤ p ∧ p ≤ 71) → J1 p j = I p j) → (∀ q j, q ≠ 70 → q ≠ 74 → q ≠ 73 → L1 q j = L q j) → ((¬ x1 = nI 0 → v = (lk_al (I 171) N 6).2.1) ∧ (x1 = nI 0 → v = nI (lk_al (I 171) N 6).1)) → Q (some (.int v)) (br_hp n J1 L1) := by
      intro J1 L1 v hJ1 hL1 hv
      have j171 : br_u J1 169 0 (nI 0) 171 = I 171 := by rw [br_u_q (by omega)]; funext j; exact hJ1 171 j (by omega)
      have wy : br_wy (br_u J1 169 0 (nI 0)) L1 := br_wy_c hI.2.2.2.2 (by rw [br_u_n (by omega)]; exact hJ1 169 25 (by omega)) (by rw [br_u_n (by omega)]; exact hJ1 169 26 (by omega)) (fun j => hL1 177 j (by omega) (by omega) (by omega))
      refine K _ J1 L1 (fun j => hJ1 1 j (by omega)) (fun d' Q' k' => rb_M_looks_0 (rs_wi_T t2 (rb_M_looks_12 (br_t br_10 (rs_M_findsLooks (d := d' + 74) j171 hI.1 rfl hrg hN eN eR hR hrR wy (fun J4 L4 hJ4 hL4 wy4 f28 f29 _ => rb_M_looks_37 ?_))))))
      have inv : br_Inv xs J4 (br_u (br_u L4 169 19 (L1 169 19)) 169 20 (L1 169 20)) := by
        have hf := hI.2.2.2.1
        refine br_Inv_a hI (fun p j hp => ?_) (fun p j q1 q2 q3 => ?_) ?_ ?_ ?_ (br_wy_c wy4 rfl rfl (fun j => by rw [br_u_n (by omega), br_u_n (by omega)]))
        · unfold br_scA at hp
          rw [hJ4 p j (by omega) (by omega) (by omega), br_u_n (by omega), hJ1 p j (by omega)]
        · rw [br_u_n (by omega), br_u_n (by omega), hL4 p j q3 q2, hL1 p j (by omega) (by omega) (by omega)]
        · rw [br_u_n (by omega), br_u_n (by omega), br_u_n (by omega), br_u_s, hL4 72 0 (by omega) (by omega), hL1 72 0 (by omega) (by omega) (by omega), hL1 169 19 (by omega) (by omega) (by omega)]; exact hf.1
        · rw [br_u_n (by omega), br_u_n (by omega), br_u_s, hL4 72 1 (by omega) (by omega), hL1 72 1 (by omega) (by omega) (by omega), hL1 169 20 (by omega) (by omega) (by omega)]; exact hf.2.1
        · rw [br_u_n (by omega), br_u_n (by omega), hL4 72 1 (by omega) (by omega), hL1 72 1 (by omega) (by omega) (by omega)]; exact hf.2.2
      refine ⟨fun h => ?_, fun h => ?_⟩
      · rw [f29, ← hv.1 h]; exact k' J4 _ inv
      · rw [f28, ← hv.2 (Classical.not_not.mp h)]; exact k' J4 _ inv
    refine rb_A_looks_0 (rs_out_F t1 (rb_A_looks_6 (br_t rfl ⟨fun h => ?_, fun h => ?_⟩)))
    · exact rs_A_findBest (p := 73) (d := d + 73) (Or.inr rfl) hI.1 rfl hN eN hroom (fun J1 L1 hJ1 hL1 e0 e1 => rb_A_looks_34 (fin J1 L1 _ hJ1 hL1 ⟨fun _ => rfl, fun z => absurd z h⟩))
    · exact rs_A_countLooks (d := d + 75) hI.1 rfl hN eN (fun J1 hJ1 => rb_A_looks_23 (rb_A_looks_34 (fin J1 L _ (fun p j hp => by rw [hJ1 p (by omega)]) (fun _ _ _ _ _ => rfl) ⟨fun z => absurd z h, fun _ => rfl⟩)))
  · refine br_pair_no hI (k := 2) (by omega) (v := -(nI 2)) (fun d Q H => ?_) (fun d Q H => ?_)
    · repeat (first
        | exact H
        | (refine br_t ?_ ?_; (focus ((first | rfl | assumption | exact fun z => z rfl | omega | (simp (disch := omega) only [not_true_eq_false, not_false_eq_true, br_u_s, br_u_n, br_u_q, nI_eq, nI_clamp, nI_add, pk_mul, br_R17, br_S17, pk_sub_toInt, br_ltT, br_leT, br_inT, br_nT, br_negT, br_b_0, br_b_1, Int32.toInt_toInt64, pk_lT, br_lnegT] <;> omega)); done)))
        | (refine br_f ?_ ?_; (focus ((first | rfl | assumption | exact fun z => z rfl | omega | (simp (disch := omega) only [not_true_eq_false, not_false_eq_true, br_u_s, br_u_n, br_u_q, nI_eq, nI_clamp, nI_add, pk_mul, br_R17, br_S17, pk_sub_toInt, br_ltT, br_leT, br_inT, br_nT, br_negT, br_b_0, br_b_1, Int32.toInt_toInt64, pk_lT, br_lnegT] <;> omega)); done)))
        | refine rb_A_looks_0 ?_
        | refine rb_A_looks_6 ?_
        | refine rb_A_looks_14 ?_
        | (refine rs_out_F ?_ ?_; (focus ((first | rfl | assumption | exact fun z => z rfl | omega | (simp (disch := omega) only [not_true_eq_false, not_false_eq_true, br_u_s, br_u_n, br_u_q, nI_eq, nI_clamp, nI_add, pk_mul, br_R17, br_S17, pk_sub_toInt, br_ltT, br_leT, br_inT, br_nT, br_negT, br_b_0, br_b_1, Int32.toInt_toInt64, pk_lT, br_lnegT] <;> omega)); done)))
        | (refine rs_out_T ?_ ?_; (focus ((first | rfl | assumption | exact fun z => z rfl | omega | (simp (disch := omega) only [not_true_eq_false, not_false_eq_true, br_u_s, br_u_n, br_u_q, nI_eq, nI_clamp, nI_add, pk_mul, br_R17, br_S17, pk_sub_toInt, br_ltT, br_leT, br_inT, br_nT, br_negT, br_b_0, br_b_1, Int32.toInt_toInt64, pk_lT, br_lnegT] <;> omega)); done)))
        | (refine rs_noChild_F (N := N) ?_ ?_ ?_ ?_; (focus ((first | rfl | assumption | exact fun z => z rfl | omega | (simp (disch := omega) only [not_true_eq_false, not_false_eq_true, br_u_s, br_u_n, br_u_q, nI_eq, nI_clamp, nI_add, pk_mul, br_R17, br_S17, pk_sub_toInt, br_ltT, br_leT, br_inT, br_nT, br_negT, br_b_0, br_b_1, Int32.toInt_toInt64, pk_lT, br_lnegT] <;> omega)); done)); (focus ((first | rfl | assumption | exact fun z => z rfl | omega | (simp (disch := omega) only [not_true_eq_false, not_false_eq_true, br_u_s, br_u_n, br_u_q, nI_eq, nI_clamp, nI_add, pk_mul, br_R17, br_S17, pk_sub_toInt, br_ltT, br_leT, br_inT, br_nT, br_negT, br_b_0, br_b_1, Int32.toInt_toInt64, pk_lT, br_lnegT] <;> omega)); done)); (focus ((first | rfl | assumption | exact fun z => z rfl | omega | (simp (disch := omega) only [not_true_eq_false, not_false_eq_true, br_u_s, br_u_n, br_u_q, nI_eq, nI_clamp, nI_add, pk_mul, br_R17, br_S17, pk_sub_toInt, br_ltT, br_leT, br_inT, br_nT, br_negT, br_b_0, br_b_1, Int32.toInt_toInt64, pk_lT, br_lnegT] <;> omega)); done)))
        | (refine rs_noChild_T (N := N) ?_ ?_ ?_ ?_; (focus ((first | rfl | assumption | exact fun z => z rfl | omega | (simp (disch := omega) only [not_true_eq_false, not_false_eq_true, br_u_s, br_u_n, br_u_q, nI_eq, nI_clamp, nI_add, pk_mul, br_R17, br_S17, pk_sub_toInt, br_ltT, br_leT, br_inT, br_nT, br_negT, br_b_0, br_b_1, Int32.toInt_toInt64, pk_lT, br_lnegT] <;> omega)); done)); (focus ((first | rfl | assumption | exact fun z => z rfl | omega | (simp (disch := omega) only [not_true_eq_false, not_false_eq_true, br_u_s, br_u_n, br_u_q, nI_eq, nI_clamp, nI_add, pk_mul, br_R17, br_S17, pk_sub_toInt, br_ltT, br_leT, br_inT, br_nT, br_negT, br_b_0, br_b_1, Int32.toInt_toInt64, pk_lT, br_lnegT] <;> omega)); done)); (focus ((first | rfl | assumption | exact fun z => z rfl | omega | (simp (disch := omega) only [not_true_eq_false, not_false_eq_true, br_u_s, br_u_n, br_u_q, nI_eq, nI_clamp, nI_add, pk_mul, br_R17, br_S17, pk_sub_toInt, br_ltT, br_leT, br_inT, br_nT, br_negT, br_b_0, br_b_1, Int32.toInt_toInt64, pk_lT, br_lnegT] <;> omega)); done)))
        | (refine rs_noTest_F ?_ ?_; (focus ((first | rfl | assumption | exact fun z => z rfl | omega | (simp (disch := omega) only [not_true_eq_false, not_false_eq_true, br_u_s, br_u_n, br_u_q, nI_eq, nI_clamp, nI_add, pk_mul, br_R17, br_S17, pk_sub_toInt, br_ltT, br_leT, br_inT, br_nT, br_negT, br_b_0, br_b_1, Int32.toInt_toInt64, pk_lT, br_lnegT] <;> omega)); done)))
        | (refine rs_noTest_T ?_ ?_; (focus ((first | rfl | assumption | exact fun z => z rfl | omega | (simp (disch := omega) only [not_true_eq_false, not_false_eq_true, br_u_s, br_u_n, br_u_q, nI_eq, nI_clamp, nI_add, pk_mul, br_R17, br_S17, pk_sub_toInt, br_ltT, br_leT, br_inT, br_nT, br_negT, br_b_0, br_b_1, Int32.toInt_toInt64, pk_lT, br_lnegT] <;> omega)); done)))
        | (refine rs_refuse ?_ ?_; (focus ((first | rfl | assumption | exact fun z => z rfl | omega | (simp (disch := omega) only [not_true_eq_false, not_false_eq_true, br_u_s, br_u_n, br_u_q, nI_eq, nI_clamp, nI_add, pk_mul, br_R17, br_S17, pk_sub_toInt, br_ltT, br_leT, br_inT, br_nT, br_negT, br_b_0, br_b_1, Int32.toInt_toInt64, pk_lT, br_lnegT] <;> omega)); done)))
        | (refine And.intro ?_ ?_; (focus ((first | rfl | assumption | exact fun z => z rfl | omega | (simp (disch := omega) only [not_true_eq_false, not_false_eq_true, br_u_s, br_u_n, br_u_q, nI_eq, nI_clamp, nI_add, pk_mul, br_R17, br_S17, pk_sub_toInt, br_ltT, br_leT, br_inT, br_nT, br_negT, br_b_0, br_b_1, Int32.toInt_toInt64, pk_lT, br_lnegT] <;> omega)); done))))
    · repeat (first
        | exact H
        | (refine br_t ?_ ?_; (focus ((first | rfl | assumption | exact fun z => z rfl | omega | (simp (disch := omega) only [not_true_eq_false, not_false_eq_true, br_u_s, br_u_n, br_u_q, nI_eq, nI_clamp, nI_add, pk_mul, br_R17, br_S17, pk_sub_toInt, br_ltT, br_leT, br_inT, br_nT, br_negT, br_b_0, br_b_1, Int32.toInt_toInt64, pk_lT, br_lnegT] <;> omega)); done)))
        | (refine br_f ?_ ?_; (focus ((first | rfl | assumption | exact fun z => z rfl | omega | (simp (disch := omega) only [not_true_eq_false, not_false_eq_true, br_u_s, br_u_n, br_u_q, nI_eq, nI_clamp, nI_add, pk_mul, br_R17, br_S17, pk_sub_toInt, br_ltT, br_leT, br_inT, br_nT, br_negT, br_b_0, br_b_1, Int32.toInt_toInt64, pk_lT, br_lnegT] <;> omega)); done)))
        | refine rb_M_looks_0 ?_
        | refine rb_M_looks_12 ?_
        | refine rb_M_looks_21 ?_
        | (refine rs_wi_T ?_ ?_; (focus ((first | rfl | assumption | exact fun z => z rfl | omega | (simp (disch := omega) only [not_true_eq_false, not_false_eq_true, br_u_s, br_u_n, br_u_q, nI_eq, nI_clamp, nI_add, pk_mul, br_R17, br_S17, pk_sub_toInt, br_ltT, br_leT, br_inT, br_nT, br_negT, br_b_0, br_b_1, Int32.toInt_toInt64, pk_lT, br_lnegT] <;> omega)); done)))
        | (refine rs_wi_F ?_ ?_; (focus ((first | rfl | assumption | exact fun z => z rfl | omega | (simp (disch := omega) only [not_true_eq_false, not_false_eq_true, br_u_s, br_u_n, br_u_q, nI_eq, nI_clamp, nI_add, pk_mul, br_R17, br_S17, pk_sub_toInt, br_ltT, br_leT, br_inT, br_nT, br_negT, br_b_0, br_b_1, Int32.toInt_toInt64, pk_lT, br_lnegT] <;> omega)); done)))
        | (refine rs_isChild_T (N := N) ?_ ?_ ?_ ?_; (focus ((first | rfl | assumption | exact fun z => z rfl | omega | (simp (disch := omega) only [not_true_eq_false, not_false_eq_true, br_u_s, br_u_n, br_u_q, nI_eq, nI_clamp, nI_add, pk_mul, br_R17, br_S17, pk_sub_toInt, br_ltT, br_leT, br_inT, br_nT, br_negT, br_b_0, br_b_1, Int32.toInt_toInt64, pk_lT, br_lnegT] <;> omega)); done)); (focus ((first | rfl | assumption | exact fun z => z rfl | omega | (simp (disch := omega) only [not_true_eq_false, not_false_eq_true, br_u_s, br_u_n, br_u_q, nI_eq, nI_clamp, nI_add, pk_mul, br_R17, br_S17, pk_sub_toInt, br_ltT, br_leT, br_inT, br_nT, br_negT, br_b_0, br_b_1, Int32.toInt_toInt64, pk_lT, br_lnegT] <;> omega)); done)); (focus ((first | rfl | assumption | exact fun z => z rfl | omega | (simp (disch := omega) only [not_true_eq_false, not_false_eq_true, br_u_s, br_u_n, br_u_q, nI_eq, nI_clamp, nI_add, pk_mul, br_R17, br_S17, pk_sub_toInt, br_ltT, br_leT, br_inT, br_nT, br_negT, br_b_0, br_b_1, Int32.toInt_toInt64, pk_lT, br_lnegT] <;> omega)); done)))
        | (refine rs_isChild_F (N := N) ?_ ?_ ?_ ?_; (focus ((first | rfl | assumption | exact fun z => z rfl | omega | (simp (disch := omega) only [not_true_eq_false, not_false_eq_true, br_u_s, br_u_n, br_u_q, nI_eq, nI_clamp, nI_add, pk_mul, br_R17, br_S17, pk_sub_toInt, br_ltT, br_leT, br_inT, br_nT, br_negT, br_b_0, br_b_1, Int32.toInt_toInt64, pk_lT, br_lnegT] <;> omega)); done)); (focus ((first | rfl | assumption | exact fun z => z rfl | omega | (simp (disch := omega) only [not_true_eq_false, not_false_eq_true, br_u_s, br_u_n, br_u_q, nI_eq, nI_clamp, nI_add, pk_mul, br_R17, br_S17, pk_sub_toInt, br_ltT, br_leT, br_inT, br_nT, br_negT, br_b_0, br_b_1, Int32.toInt_toInt64, pk_lT, br_lnegT] <;> omega)); done)); (focus ((first | rfl | assumption | exact fun z => z rfl | omega | (simp (disch := omega) only [not_true_eq_false, not_false_eq_true, br_u_s, br_u_n, br_u_q, nI_eq, nI_clamp, nI_add, pk_mul, br_R17, br_S17, pk_sub_toInt, br_ltT, br_leT, br_inT, br_nT, br_negT, br_b_0, br_b_1, Int32.toInt_toInt64, pk_lT, br_lnegT] <;> omega)); done)))
        | (refine rs_isTest_T ?_ ?_; (focus ((first | rfl | assumption | exact fun z => z rfl | omega | (simp (disch := omega) only [not_true_eq_false, not_false_eq_true, br_u_s, br_u_n, br_u_q, nI_eq, nI_clamp, nI_add, pk_mul, br_R17, br_S17, pk_sub_toInt, br_ltT, br_leT, br_inT, br_nT, br_negT, br_b_0, br_b_1, Int32.toInt_toInt64, pk_lT, br_lnegT] <;> omega)); done)))
        | (refine rs_isTest_F ?_ ?_; (focus ((first | rfl | assumption | exact fun z => z rfl | omega | (simp (disch := omega) only [not_true_eq_false, not_false_eq_true, br_u_s, br_u_n, br_u_q, nI_eq, nI_clamp, nI_add, pk_mul, br_R17, br_S17, pk_sub_toInt, br_ltT, br_leT, br_inT, br_nT, br_negT, br_b_0, br_b_1, Int32.toInt_toInt64, pk_lT, br_lnegT] <;> omega)); done)))
        | (refine rs_no ?_ ?_; (focus ((first | rfl | assumption | exact fun z => z rfl | omega | (simp (disch := omega) only [not_true_eq_false, not_false_eq_true, br_u_s, br_u_n, br_u_q, nI_eq, nI_clamp, nI_add, pk_mul, br_R17, br_S17, pk_sub_toInt, br_ltT, br_leT, br_inT, br_nT, br_negT, br_b_0, br_b_1, Int32.toInt_toInt64, pk_lT, br_lnegT] <;> omega)); done)))
        | (refine rs_pointOf ?_ ?_ ?_; (focus ((first | rfl | assumption | exact fun z => z rfl | omega | (simp (disch := omega) only [not_true_eq_false, not_false_eq_true, br_u_s, br_u_n, br_u_q, nI_eq, nI_clamp, nI_add, pk_mul, br_R17, br_S17, pk_sub_toInt, br_ltT, br_leT, br_inT, br_nT, br_negT, br_b_0, br_b_1, Int32.toInt_toInt64, pk_lT, br_lnegT] <;> omega)); done)); (focus ((first | rfl | assumption | exact fun z => z rfl | omega | (simp (disch := omega) only [not_true_eq_false, not_false_eq_true, br_u_s, br_u_n, br_u_q, nI_eq, nI_clamp, nI_add, pk_mul, br_R17, br_S17, pk_sub_toInt, br_ltT, br_leT, br_inT, br_nT, br_negT, br_b_0, br_b_1, Int32.toInt_toInt64, pk_lT, br_lnegT] <;> omega)); done)))
        | (refine And.intro ?_ ?_; (focus ((first | rfl | assumption | exact fun z => z rfl | omega | (simp (disch := omega) only [not_true_eq_false, not_false_eq_true, br_u_s, br_u_n, br_u_q, nI_eq, nI_clamp, nI_add, pk_mul, br_R17, br_S17, pk_sub_toInt, br_ltT, br_leT, br_inT, br_nT, br_negT, br_b_0, br_b_1, Int32.toInt_toInt64, pk_lT, br_lnegT] <;> omega)); done))))
end
