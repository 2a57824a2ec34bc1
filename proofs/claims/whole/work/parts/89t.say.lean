set_option maxRecDepth 100000
set_option maxHeartbeats 4000000
/-! what a school may be told -/
def lk_bad (g : Nat → Int32) : Nat → Bool
  | 0 => false
  | c + 1 => lk_bad g c || decide (g (787 + c) = nI 3)
theorem lk_bad_up {g : Nat → Int32} {c : Nat} (h : lk_bad g c = true) : ∀ k, lk_bad g (c + k) = true
  | 0 => h
  | k + 1 => by
    show (lk_bad g (c + k) || _) = true
    rw [lk_bad_up h k]; rfl
noncomputable def sy_v (g : Nat → Int32) (N a b : Nat) : Nat :=
  if ¬ 0 < (bs_V (bs_l (bm_rd g a b false) (bs_e g a b) N)).toInt then 0
  else if lk_bad g N = true then 1
  else if 0 < (bf_u (bs_U (bs_l (bm_rd g a b false) (bs_e g a b) N)) (bs_V (bs_l (bm_rd g a b false) (bs_e g a b) N))).toInt ∧ ¬ 0 < (bf_u (bs_U (bs_l (bm_rd g a b true) (bs_e g a b) N)) (bs_V (bs_l (bm_rd g a b true) (bs_e g a b) N))).toInt then 2
  else if ¬ 0 < (bf_u (bs_U (bs_l (bm_rd g a b false) (bs_e g a b) N)) (bs_V (bs_l (bm_rd g a b false) (bs_e g a b) N))).toInt then 3
  else if ¬ 0 < (lk_al g N 6).1 ∨ (lk_pl (lk_al g N 6)).toInt < 20 * (lk_pu (lk_al g N 6)).toInt then 4
  else 5
section
variable {d n : Nat} {Q : br_Q} {I J : Nat → Nat → Int32} {L : Nat → Nat → Int64} {g : Nat → Int32} {N : Nat}
theorem rs_W_bad {z1 : Option Value} (hW : br_W 9 0 I) (hg : I 171 = g) (hN : N ≤ 40) (eN : g 666 = nI N) (H : Q (some (.int (nI (lk_bad g N).toNat))) (br_hp n I L)) :
    br_r d 175 0 [some (.ref 9), z1] [] (br_hp n I L) Q := by
  have cN : I 9 8 = nI N := (bi_children hW.1).trans (by rw [hg]; exact eN)
  have loop : ∀ m c, c + m = N → lk_bad g c = false → br_r d 175 2 [some (.ref 9), some (.int (nI c))] [] (br_hp n I L) Q := by
    intro m
    induction m with
    | zero =>
      intro c hc hb
      have : c = N := by omega
      subst this
      rw [hb] at H
      exact rb_World_isAnyBad_2 (br_t (by rw [cN]; exact nI_le (Nat.le_refl _) (by omega)) H)
    | succ m ih =>
      intro c hc hb
      have ew : I 15 c = g (787 + c) := by rw [← hg]; exact bi_word hW.1 (by omega)
      refine rb_World_isAnyBad_2 (br_f (by rw [cN]; exact nI_ge (by omega) (by omega)) ?_)
      rw [nI_clamp (by omega), ew, nI_add]
      refine ⟨vp_in_nI (by omega) (by omega), fun h => ih (c + 1) (by omega) ?_, fun h => ?_⟩
      · show (lk_bad g c || decide (g (787 + c) = nI 3)) = false
        rw [hb, decide_eq_false h]; rfl
      · have hb1 : lk_bad g (c + 1) = true := by
          show (lk_bad g c || decide (g (787 + c) = nI 3)) = true
          rw [hb, decide_eq_true (Classical.not_not.mp h)]; rfl
        have hbN := lk_bad_up hb1 m
        rw [show c + 1 + m = N by omega] at hbN
        rw [hbN] at H
        exact H
  exact rb_World_isAnyBad_0 (loop N 0 (by omega) rfl)
theorem rs_M_bad {z1 z2 : Option Value} (hg : J 171 = g) (hN : N ≤ 40) (eN : g 666 = nI N) (H : Q (some (.int (nI (lk_bad g N).toNat))) (br_hp n J L)) :
    br_r d 290 0 [some (.ref 169), z1, z2] [] (br_hp n J L) Q := by
  have loop : ∀ m c, c + m = N → br_r d 290 4 [some (.ref 169), some (.int (nI (lk_bad g c).toNat)), some (.int (nI c))] [] (br_hp n J L) Q := by
    intro m
    induction m with
    | zero =>
      intro c hc
      have : c = N := by omega
      subst this
      exact rb_M_isBad_4 (br_t (by rw [hg, eN]; exact nI_le (Nat.le_refl _) (by omega)) ⟨bu_nI _, H⟩)
    | succ m ih =>
      intro c hc
      have h1 := ih (c + 1) (by omega)
      have e : lk_bad g (c + 1) = (lk_bad g c || decide (g (787 + c) = nI 3)) := rfl
      rw [e] at h1
      refine rb_M_isBad_4 (br_f (by rw [hg, eN]; exact nI_ge (by omega) (by omega)) ?_)
      rw [nI_add, nI_add, nI_clamp (by omega), hg, bu_nI0]
      refine ⟨fun h => ?_, fun h => ⟨vp_in_nI (by omega) (by omega), fun h2 => ?_, fun h2 => ?_⟩⟩
      · rw [Bool.not_eq_false] at h
        rw [h] at h1; exact h1
      · have h' := Classical.not_not.mp h
        rw [h', decide_eq_false h2] at h1; exact h1
      · have h' := Classical.not_not.mp h
        rw [h', decide_eq_true (Classical.not_not.mp h2)] at h1; exact h1
  exact rb_M_isBad_0 (loop N 0 (by omega))
theorem rs_A_says {a b : Nat} {x1 x2 : Int32} (hx1 : x1 = nI a) (hx2 : x2 = nI b) (ha : a < 6) (hb : b < 6) (hab : ¬ x1 = x2) (hW : br_W 9 0 I) (hg : I 171 = g) (hN : N ≤ 40) (eN : g 666 = nI N) (hroom : ∀ c, c < N → ∃ r, r < 18 ∧ g (667 + c) = nI r)
    (H : ∀ (J : Nat → Nat → Int32) (L' : Nat → Nat → Int64), (∀ p j, ¬ (64 ≤ p ∧ p ≤ 71) → J p j = I p j) → (∀ q j, q ≠ 70 → q ≠ 74 → q ≠ 73 → L' q j = L q j) → Q (some (.int (nI (sy_v g N a b)))) (br_hp n J L')) :
    br_r (d + 8) 174 11 [some (.ref 8), some (.int x1), some (.int x2)] [.int (nI 0)] (br_hp n I L) Q := by
  subst hx1 hx2
  have ok := lk_al_ok (g := g) hN 6 (Nat.le_refl _)
  have bl : ∀ cl, br_bl (bs_l (bm_rd g a b cl) (bs_e g a b) N) := fun cl => by rw [← hg]; exact bs_l_bl hW hN ha hb
  have z0 : (lN 0).toInt = 0 := pk_lT (by omega)
  refine rb_A_say_11 (br_t rfl (br_t hab (rs_W_gather (clean := false) hW hN (by rw [hg]; exact eN) ha hb (fun J1 hJ1 hq1 => rb_A_say_45 ?_))))
  rw [hg] at hq1
  have g1 : J1 171 = g := by rw [hJ1 171 (by omega), hg]
  have hW1 : br_W 9 0 J1 := br_W_c hW (fun p j h1 h2 => by rw [hJ1 p (by omega)]) (fun k _ => by rw [hJ1 171 (by omega)])
  have f1 : ∀ p j, ¬ (64 ≤ p ∧ p ≤ 71) → J1 p j = I p j := fun p j hp => by rw [hJ1 p (by omega)]
  refine rs_difference (p := 73) hq1 (bl false) rfl (rb_A_say_56 (rs_isNone rfl (rb_A_say_63 ?_)))
  unfold sy_v at H
  generalize hs1 : bs_l (bm_rd g a b false) (bs_e g a b) N = s1 at *
  generalize hs2 : bs_l (bm_rd g a b true) (bs_e g a b) N = s2 at *
  generalize hM : br_u (br_u L 73 0 (bf_u (bs_U s1) (bs_V s1))) 73 1 (bf_l (bs_U s1) (bs_V s1)) = M
  have fM : ∀ q j, q ≠ 70 → q ≠ 74 → q ≠ 73 → M q j = L q j := fun q j q1 q2 q3 => by rw [← hM, br_u_n (by omega), br_u_n (by omega)]
  have m0 : M 73 0 = bf_u (bs_U s1) (bs_V s1) := by rw [← hM, br_u_n (by omega), br_u_s]
  have m1 : M 73 1 = bf_l (bs_U s1) (bs_V s1) := by rw [← hM, br_u_s]
  rw [m1, bn_0, bf_l_iff]
  refine ⟨fun h1 => rs_W_bad hW1 g1 hN eN (rb_A_say_75 ?_), fun h1 => ?_⟩
  · rw [if_neg (fun z => z h1)] at H
    rw [bu_nI0]
    refine ⟨fun h2 => rs_W_gather (clean := true) hW1 hN (by rw [g1]; exact eN) ha hb (fun J2 hJ2 hq2 => rb_A_say_94 ?_), fun h2 => ?_⟩
    · rw [if_neg (by rw [h2]; exact Bool.false_ne_true)] at H
      rw [g1, hs2] at hq2
      have bl2 : br_bl s2 := by rw [← hs2]; exact bl true
      have f2 : ∀ p j, ¬ (64 ≤ p ∧ p ≤ 71) → J2 p j = I p j := fun p j hp => by rw [hJ2 p (by omega)]; exact f1 p j hp
      refine rs_difference (p := 74) hq2 bl2 rfl (rb_A_say_105 ?_)
      generalize hM2 : br_u (br_u M 74 0 (bf_u (bs_U s2) (bs_V s2))) 74 1 (bf_l (bs_U s2) (bs_V s2)) = M2
      have fM2 : ∀ q j, q ≠ 70 → q ≠ 74 → q ≠ 73 → M2 q j = L q j := fun q j q1 q2 q3 => by rw [← hM2, br_u_n (by omega), br_u_n (by omega)]; exact fM q j q1 q2 q3
      have k0 : M2 73 0 = bf_u (bs_U s1) (bs_V s1) := by rw [← hM2, br_u_n (by omega), br_u_n (by omega)]; exact m0
      have k1 : M2 74 0 = bf_u (bs_U s2) (bs_V s2) := by rw [← hM2, br_u_n (by omega), br_u_s]
      rw [k0, k1, br_cmpLE, br_leJ, br_cmp1, br_ltJ, z0]
      have tail : ¬ (0 < (bf_u (bs_U s1) (bs_V s1)).toInt ∧ ¬ 0 < (bf_u (bs_U s2) (bs_V s2)).toInt) → br_r (d + 8) 174 131 [some (.ref 8), some (.int (nI a)), some (.int (nI b))] [] (br_hp n J2 M2) Q := by
        intro h3
        rw [if_neg h3] at H
        refine rb_A_say_131 ?_
        rw [k0, br_cmp1, br_ltJ, z0]
        refine ⟨fun h4 => ?_, fun h4 => ?_⟩
        · rw [if_neg (fun z => z h4)] at H
          have hW2 : br_W 9 0 J2 := br_W_c hW (fun p j h1 h2 => f2 p j (by omega)) (fun k _ => f2 171 _ (by omega))
          have g2 : J2 171 = g := by rw [← hg]; funext j; exact f2 171 j (by omega)
          refine rs_A_pay (p := 73) (Or.inr rfl) hW2 g2 hN eN hroom (fun J3 L3 hJ3 hL3 e0 e1 => rb_A_say_153 (rs_isNone rfl (rb_A_say_160 ?_)))
          have f3 : ∀ p j, ¬ (64 ≤ p ∧ p ≤ 71) → J3 p j = I p j := fun p j hp => by rw [hJ3 p j hp]; exact f2 p j hp
          have fL3 : ∀ q j, q ≠ 70 → q ≠ 74 → q ≠ 73 → L3 q j = L q j := fun q j q1 q2 q3 => by rw [hL3 q j q1 q2 q3]; exact fM2 q j q1 q2 q3
          have h9 := H J3 L3 f3 fL3
          generalize lk_al g N 6 = S at *
          rw [e0, e1, bn_0, lk_told ok]
          refine ⟨fun h5 => ?_, fun h5 => ?_⟩
          · rw [if_pos (Or.inl h5)] at h9; exact h9
          · have h5' := Classical.not_not.mp h5
            have pb := lk_pb ok h5'
            have t20 : (lN 20).toInt = 20 := pk_lT (by omega)
            have e5 : (lN 20 * lk_pu S).toInt = 20 * (lk_pu S).toInt := by rw [br_lmulT (by rw [t20]; omega) (by rw [t20]; omega), t20]
            rw [br_cmpLE, br_leJ, e5]
            refine ⟨fun h6 => ?_, fun h6 => ?_⟩
            · rw [if_neg (fun z => by rcases z with z | z; exact z h5'; omega)] at h9; exact h9
            · rw [if_pos (Or.inr (by omega))] at h9; exact h9
        · rw [if_pos h4] at H
          exact H J2 M2 f2 fM2
      refine ⟨fun h3 => tail (fun z => by omega), fun h3 => ⟨fun h4 => tail (fun z => z.2 h4), fun h4 => ?_⟩⟩
      rw [if_pos ⟨by omega, h4⟩] at H
      exact H J2 M2 f2 fM2
    · rw [Bool.not_eq_false] at h2
      rw [if_pos h2] at H
      exact H J1 M f1 fM
  · rw [if_pos h1] at H
    exact H J1 M f1 fM
theorem rs_M_says {a b R m0 : Nat} {ht : Nat → Nat → Nat} {z3 z4 : Option Value} (ha : a < 6) (hb : b < 6) (hg : J 171 = g) (hW : br_W 9 0 I) (hgI : I 171 = g) (hrg : br_rg g m0 ht) (hN : N ≤ 40) (eN : g 666 = nI N) (eR : g 629 = nI R) (hR : R ≤ 18) (hroom : ∀ c, c < N → ∃ r, r < R ∧ g (667 + c) = nI r) (hw : br_wy J L)
    (H : ∀ (J' : Nat → Nat → Int32) (L' : Nat → Nat → Int64), (∀ p j, ¬ (p = 169 ∧ 24 ≤ j) → p ≠ 175 → p ≠ 176 → J' p j = J p j) → (∀ q j, q ≠ 177 → q ≠ 169 → L' q j = L q j) → br_wy J' L' → Q (some (.int (nI (sy_v g N a b)))) (br_hp n J' L')) :
    br_r (d + 7) 289 0 [some (.ref 169), some (.int (nI a)), some (.int (nI b)), z3, z4] [] (br_hp n J L) Q := by
  have ok := lk_al_ok (g := g) hN 6 (Nat.le_refl _)
  have h18 : ∀ c, c < N → ∃ r, r < 18 ∧ g (667 + c) = nI r := fun c hc => by
    obtain ⟨r, h1, h2⟩ := hroom c hc
    exact ⟨r, by omega, h2⟩
  have bl : ∀ cl, br_bl (bs_l (bm_rd g a b cl) (bs_e g a b) N) := fun cl => by rw [← hgI]; exact bs_l_bl hW hN ha hb
  have z0 : (lN 0).toInt = 0 := pk_lT (by omega)
  refine rb_M_says_0 (rs_M_looksAt (clean := false) hg hrg ha hb eN hN h18 (fun J1 hJ1 hP1 => rb_M_says_7 ?_))
  have g1 : J1 171 = g := by rw [hJ1 171 (by omega) (by omega), hg]
  refine rs_M_tellsEffect (P := bm_rd g a b false) ⟨g1, eN, hN, hP1⟩ ha hb (bl false) (rb_M_says_13 ?_)
  unfold sy_v at H
  generalize hs1 : bs_l (bm_rd g a b false) (bs_e g a b) N = s1 at *
  generalize hs2 : bs_l (bm_rd g a b true) (bs_e g a b) N = s2 at *
  have f1 : ∀ p j, ¬ (p = 169 ∧ 24 ≤ j) → p ≠ 175 → p ≠ 176 → J1 p j = J p j := fun p j q1 q2 q3 => by rw [hJ1 p q2 q3]
  generalize hM : br_u (br_u L 169 19 (bf_u (bs_U s1) (bs_V s1))) 169 20 (bf_l (bs_U s1) (bs_V s1)) = M
  have fM : ∀ q j, q ≠ 177 → q ≠ 169 → M q j = L q j := fun q j q1 q2 => by rw [← hM, br_u_n (by omega), br_u_n (by omega)]
  have m0 : M 169 19 = bf_u (bs_U s1) (bs_V s1) := by rw [← hM, br_u_n (by omega), br_u_s]
  have wy1 : br_wy J1 M := br_wy_c hw (by rw [hJ1 169 (by omega) (by omega)]) (by rw [hJ1 169 (by omega) (by omega)]) (fun j => by rw [← hM, br_u_n (by omega), br_u_n (by omega)])
  by_cases h1 : 0 < (bs_V s1).toInt
  · rw [bu_dT h1]
    rw [if_neg (fun z => z h1)] at H
    refine br_t br_10 ?_
    rw [m0, br_cmpLE, br_leJ, z0]
    have mid : ∀ w : Bool, w = decide (0 < (bf_u (bs_U s1) (bs_V s1)).toInt) → br_r (d + 6) 290 0 [some (.ref 169), none, none] [] (br_hp n J1 M) (fun v h => br_r (d + 7) 289 37 [some (.ref 169), some (.int (nI a)), some (.int (nI b)), some (.int (nI w.toNat)), z4] (v.toList ++ []) (br_bk h) Q) := by
      intro w hw2
      refine rs_M_bad g1 hN eN (rb_M_says_37 ?_)
      rw [bu_nI0]
      refine ⟨fun h2 => rs_M_looksAt (clean := true) g1 hrg ha hb eN hN h18 (fun J2 hJ2 hP2 => rb_M_says_49 ?_), fun h2 => ?_⟩
      · rw [if_neg (by rw [h2]; exact Bool.false_ne_true)] at H
        have g2 : J2 171 = g := by rw [hJ2 171 (by omega) (by omega), g1]
        have f2 : ∀ p j, ¬ (p = 169 ∧ 24 ≤ j) → p ≠ 175 → p ≠ 176 → J2 p j = J p j := fun p j q1 q2 q3 => by rw [hJ2 p q2 q3]; exact f1 p j q1 q2 q3
        refine rs_M_tellsEffect (P := bm_rd g a b true) ⟨g2, eN, hN, hP2⟩ ha hb (by rw [hs2, ← hs2]; exact bl true) (rb_M_says_55 ?_)
        rw [hs2]
        generalize hM2 : br_u (br_u M 169 19 (bf_u (bs_U s2) (bs_V s2))) 169 20 (bf_l (bs_U s2) (bs_V s2)) = M2
        have fM2 : ∀ q j, q ≠ 177 → q ≠ 169 → M2 q j = L q j := fun q j q1 q2 => by rw [← hM2, br_u_n (by omega), br_u_n (by omega)]; exact fM q j q1 q2
        have k0 : M2 169 19 = bf_u (bs_U s2) (bs_V s2) := by rw [← hM2, br_u_n (by omega), br_u_s]
        have wy2 : br_wy J2 M2 := br_wy_c wy1 (by rw [hJ2 169 (by omega) (by omega)]) (by rw [hJ2 169 (by omega) (by omega)]) (fun j => by rw [← hM2, br_u_n (by omega), br_u_n (by omega)])
        rw [k0, br_cmpLE, br_leJ, z0, bu_nI0]
        have un : ¬ 0 < (bs_V s2).toInt → ¬ 0 < (bf_u (bs_U s2) (bs_V s2)).toInt := fun z => by rw [bf_uF z, z0]; omega
        -- paid
        have pay : ∀ z4 : Option Value, 0 < (bf_u (bs_U s1) (bs_V s1)).toInt → ¬ (0 < (bf_u (bs_U s1) (bs_V s1)).toInt ∧ ¬ 0 < (bf_u (bs_U s2) (bs_V s2)).toInt) → br_r (d + 6) 266 0 [some (.ref 169), none, none] [] (br_hp n J2 M2) (fun v h => br_r (d + 7) 289 96 [some (.ref 169), some (.int (nI a)), some (.int (nI b)), some (.int (nI w.toNat)), z4] (v.toList ++ []) (br_bk h) Q) := by
          intro z4 h3 h4
          rw [if_neg h4, if_neg (fun z => z h3)] at H
          refine rs_M_pay g2 hW hgI hrg hN eN eR hR hroom wy2 (fun J3 L3 hJ3 hL3 wy3 e0 e1 => rb_M_says_96 ?_)
          have h9 := H J3 L3 (fun p j q1 q2 q3 => by rw [hJ3 p j q1 q2 q3]; exact f2 p j q1 q2 q3) (fun q j q1 q2 => by rw [hL3 q j q1 q2]; exact fM2 q j q1 q2) wy3
          generalize lk_al g N 6 = S at *
          rw [e0, e1]
          by_cases h5 : 0 < S.1
          · rw [bu_dT h5]
            have pb := lk_pb ok h5
            have t20 : (lN 20).toInt = 20 := pk_lT (by omega)
            have t1 : (lN 1).toInt = 1 := pk_lT (by omega)
            refine br_f br_10 (rs_M_isLess (by omega) pb.1 (by omega) (by omega) (by omega) (by omega) (rb_M_says_114 ?_))
            rw [t1, t20]
            by_cases h6 : (lk_pl S).toInt < 20 * (lk_pu S).toInt
            · rw [bu_dT (show 1 * (lk_pl S).toInt - (lk_pu S).toInt * 20 < 0 by omega)]
              rw [if_pos (Or.inr h6)] at h9
              exact br_f br_10 h9
            · rw [bu_dF (show ¬ 1 * (lk_pl S).toInt - (lk_pu S).toInt * 20 < 0 by omega)]
              rw [if_neg (fun z => by rcases z with z | z; exact z h5; exact h6 z)] at h9
              exact br_t rfl h9
          · rw [bu_dF h5]
            rw [if_pos (Or.inl h5)] at h9
            exact br_t rfl h9
        have no3 : ¬ 0 < (bf_u (bs_U s1) (bs_V s1)).toInt → Q (some (.int (nI 3))) (br_hp n J2 M2) := fun h3 => by
          rw [if_neg (fun z => h3 z.1), if_pos h3] at H
          exact H J2 M2 f2 fM2 wy2
        have wF : w = false ↔ ¬ 0 < (bf_u (bs_U s1) (bs_V s1)).toInt := by rw [hw2]; exact decide_eq_false_iff_not
        -- not more without the ends
        have end72 : ¬ 0 < (bf_u (bs_U s2) (bs_V s2)).toInt → br_r (d + 7) 289 72 [some (.ref 169), some (.int (nI a)), some (.int (nI b)), some (.int (nI w.toNat)), z4] [] (br_hp n J2 M2) Q := by
          intro h3
          refine rb_M_says_72 ?_
          rw [bu_nI0, wF]
          refine ⟨fun h4 => ⟨fun h5 => absurd h4 h5, fun _ => no3 h4⟩, fun h4 => ?_⟩
          have h4' := Classical.not_not.mp h4
          rw [if_pos ⟨h4', h3⟩] at H
          exact H J2 M2 f2 fM2 wy2
        by_cases h3 : 0 < (bs_V s2).toInt
        · rw [bu_dT h3, wF]
          refine br_f (fun z => z rfl) ⟨fun h4 => end72 (by omega), fun h4 => ?_⟩
          have h4' : 0 < (bf_u (bs_U s2) (bs_V s2)).toInt := by omega
          refine ⟨fun h5 => ⟨fun h6 => absurd h5 h6, fun _ => no3 h5⟩, fun h5 => ⟨fun h6 => pay _ (Classical.not_not.mp h5) (fun z => z.2 h4'), fun h6 => absurd (Classical.not_not.mp h6) h5⟩⟩
        · rw [bu_dF h3]
          exact br_t (fun z => br_10 z.symm) (end72 (un h3))
      · rw [Bool.not_eq_false] at h2
        rw [if_pos h2] at H
        exact H J1 M f1 fM wy1
    refine ⟨fun h2 => mid false (decide_eq_false (by omega)).symm, fun h2 => mid true (decide_eq_true (by omega)).symm⟩
  · rw [bu_dF h1]
    rw [if_pos h1] at H
    exact br_f (fun z => z rfl) (H J1 M f1 fM wy1)
end
section
variable {n : Nat} {xs : Nat → Int32} {I : Nat → Nat → Int32} {L : Nat → Nat → Int64}
theorem bp_say (hI : br_Inv xs I L) (x1 : Int32) (x2 : Int32)  : br_pair n xs 174 288 [some (.ref 8), some (.int x1), some (.int x2)] [some (.ref 169), some (.int x1), some (.int x2), none, none, none, none, none] I L := by
  obtain ⟨N, R, hN, hR, eN, eR, a3, a4, a5⟩ := hI.1.2.1
  rw [Nat.zero_add] at eN eR
  have cN : I 9 8 = nI N := (bi_children hI.1.1).trans eN
  have cR : I 9 2 = nI R := (bi_rooms hI.1.1).trans eR
  by_cases h2 : 0 ≤ x1.toInt ∧ x1.toInt < 6
  · by_cases h3 : 0 ≤ x2.toInt ∧ x2.toInt < 6
    · by_cases h4 : x1 = x2
      · subst h4
        refine br_pair_no hI (k := 3) (by omega) (v := -(nI 3)) (fun d Q H => ?_) (fun d Q H => ?_)
        · repeat (first
            | exact H
            | (refine br_t ?_ ?_; (focus ((first | rfl | assumption | exact fun z => z rfl | omega | (simp (disch := omega) only [not_true_eq_false, not_false_eq_true, br_u_s, br_u_n, br_u_q, nI_eq, nI_clamp, nI_add, pk_mul, br_R17, br_S17, pk_sub_toInt, br_ltT, br_leT, br_inT, br_nT, br_negT, br_b_0, br_b_1, Int32.toInt_toInt64, pk_lT, br_lnegT] <;> omega)); done)))
            | (refine br_f ?_ ?_; (focus ((first | rfl | assumption | exact fun z => z rfl | omega | (simp (disch := omega) only [not_true_eq_false, not_false_eq_true, br_u_s, br_u_n, br_u_q, nI_eq, nI_clamp, nI_add, pk_mul, br_R17, br_S17, pk_sub_toInt, br_ltT, br_leT, br_inT, br_nT, br_negT, br_b_0, br_b_1, Int32.toInt_toInt64, pk_lT, br_lnegT] <;> omega)); done)))
            | refine rb_A_say_0 ?_
            | refine rb_A_say_4 ?_
            | refine rb_A_say_11 ?_
            | refine rb_A_say_19 ?_
            | refine rb_A_say_30 ?_
            | (refine rs_out_F ?_ ?_; (focus ((first | rfl | assumption | exact fun z => z rfl | omega | (simp (disch := omega) only [not_true_eq_false, not_false_eq_true, br_u_s, br_u_n, br_u_q, nI_eq, nI_clamp, nI_add, pk_mul, br_R17, br_S17, pk_sub_toInt, br_ltT, br_leT, br_inT, br_nT, br_negT, br_b_0, br_b_1, Int32.toInt_toInt64, pk_lT, br_lnegT] <;> omega)); done)))
            | (refine rs_out_T ?_ ?_; (focus ((first | rfl | assumption | exact fun z => z rfl | omega | (simp (disch := omega) only [not_true_eq_false, not_false_eq_true, br_u_s, br_u_n, br_u_q, nI_eq, nI_clamp, nI_add, pk_mul, br_R17, br_S17, pk_sub_toInt, br_ltT, br_leT, br_inT, br_nT, br_negT, br_b_0, br_b_1, Int32.toInt_toInt64, pk_lT, br_lnegT] <;> omega)); done)))
            | (refine rs_noChild_F (N := N) ?_ ?_ ?_ ?_; (focus ((first | rfl | assumption | exact fun z => z rfl | omega | (simp (disch := omega) only [not_true_eq_false, not_false_eq_true, br_u_s, br_u_n, br_u_q, nI_eq, nI_clamp, nI_add, pk_mul, br_R17, br_S17, pk_sub_toInt, br_ltT, br_leT, br_inT, br_nT, br_negT, br_b_0, br_b_1, Int32.toInt_toInt64, pk_lT, br_lnegT] <;> omega)); done)); (focus ((first | rfl | assumption | exact fun z => z rfl | omega | (simp (disch := omega) only [not_true_eq_false, not_false_eq_true, br_u_s, br_u_n, br_u_q, nI_eq, nI_clamp, nI_add, pk_mul, br_R17, br_S17, pk_sub_toInt, br_ltT, br_leT, br_inT, br_nT, br_negT, br_b_0, br_b_1, Int32.toInt_toInt64, pk_lT, br_lnegT] <;> omega)); done)); (focus ((first | rfl | assumption | exact fun z => z rfl | omega | (simp (disch := omega) only [not_true_eq_false, not_false_eq_true, br_u_s, br_u_n, br_u_q, nI_eq, nI_clamp, nI_add, pk_mul, br_R17, br_S17, pk_sub_toInt, br_ltT, br_leT, br_inT, br_nT, br_negT, br_b_0, br_b_1, Int32.toInt_toInt64, pk_lT, br_lnegT] <;> omega)); done)))
            | (refine rs_noChild_T (N := N) ?_ ?_ ?_ ?_; (focus ((first | rfl | assumption | exact fun z => z rfl | omega | (simp (disch := omega) only [not_true_eq_false, not_false_eq_true, br_u_s, br_u_n, br_u_q, nI_eq, nI_clamp, nI_add, pk_mul, br_R17, br_S17, pk_sub_toInt, br_ltT, br_leT, br_inT, br_nT, br_negT, br_b_0, br_b_1, Int32.toInt_toInt64, pk_lT, br_lnegT] <;> omega)); done)); (focus ((first | rfl | assumption | exact fun z => z rfl | omega | (simp (disch := omega) only [not_true_eq_false, not_false_eq_true, br_u_s, br_u_n, br_u_q, nI_eq, nI_clamp, nI_add, pk_mul, br_R17, br_S17, pk_sub_toInt, br_ltT, br_leT, br_inT, br_nT, br_negT, br_b_0, br_b_1, Int32.toInt_toInt64, pk_lT, br_lnegT] <;> omega)); done)); (focus ((first | rfl | assumption | exact fun z => z rfl | omega | (simp (disch := omega) only [not_true_eq_false, not_false_eq_true, br_u_s, br_u_n, br_u_q, nI_eq, nI_clamp, nI_add, pk_mul, br_R17, br_S17, pk_sub_toInt, br_ltT, br_leT, br_inT, br_nT, br_negT, br_b_0, br_b_1, Int32.toInt_toInt64, pk_lT, br_lnegT] <;> omega)); done)))
            | (refine rs_noTest_F ?_ ?_; (focus ((first | rfl | assumption | exact fun z => z rfl | omega | (simp (disch := omega) only [not_true_eq_false, not_false_eq_true, br_u_s, br_u_n, br_u_q, nI_eq, nI_clamp, nI_add, pk_mul, br_R17, br_S17, pk_sub_toInt, br_ltT, br_leT, br_inT, br_nT, br_negT, br_b_0, br_b_1, Int32.toInt_toInt64, pk_lT, br_lnegT] <;> omega)); done)))
            | (refine rs_noTest_T ?_ ?_; (focus ((first | rfl | assumption | exact fun z => z rfl | omega | (simp (disch := omega) only [not_true_eq_false, not_false_eq_true, br_u_s, br_u_n, br_u_q, nI_eq, nI_clamp, nI_add, pk_mul, br_R17, br_S17, pk_sub_toInt, br_ltT, br_leT, br_inT, br_nT, br_negT, br_b_0, br_b_1, Int32.toInt_toInt64, pk_lT, br_lnegT] <;> omega)); done)))
            | (refine rs_refuse ?_ ?_; (focus ((first | rfl | assumption | exact fun z => z rfl | omega | (simp (disch := omega) only [not_true_eq_false, not_false_eq_true, br_u_s, br_u_n, br_u_q, nI_eq, nI_clamp, nI_add, pk_mul, br_R17, br_S17, pk_sub_toInt, br_ltT, br_leT, br_inT, br_nT, br_negT, br_b_0, br_b_1, Int32.toInt_toInt64, pk_lT, br_lnegT] <;> omega)); done)))
            | (refine And.intro ?_ ?_; (focus ((first | rfl | assumption | exact fun z => z rfl | omega | (simp (disch := omega) only [not_true_eq_false, not_false_eq_true, br_u_s, br_u_n, br_u_q, nI_eq, nI_clamp, nI_add, pk_mul, br_R17, br_S17, pk_sub_toInt, br_ltT, br_leT, br_inT, br_nT, br_negT, br_b_0, br_b_1, Int32.toInt_toInt64, pk_lT, br_lnegT] <;> omega)); done))))
        · repeat (first
            | exact H
            | (refine br_t ?_ ?_; (focus ((first | rfl | assumption | exact fun z => z rfl | omega | (simp (disch := omega) only [not_true_eq_false, not_false_eq_true, br_u_s, br_u_n, br_u_q, nI_eq, nI_clamp, nI_add, pk_mul, br_R17, br_S17, pk_sub_toInt, br_ltT, br_leT, br_inT, br_nT, br_negT, br_b_0, br_b_1, Int32.toInt_toInt64, pk_lT, br_lnegT] <;> omega)); done)))
            | (refine br_f ?_ ?_; (focus ((first | rfl | assumption | exact fun z => z rfl | omega | (simp (disch := omega) only [not_true_eq_false, not_false_eq_true, br_u_s, br_u_n, br_u_q, nI_eq, nI_clamp, nI_add, pk_mul, br_R17, br_S17, pk_sub_toInt, br_ltT, br_leT, br_inT, br_nT, br_negT, br_b_0, br_b_1, Int32.toInt_toInt64, pk_lT, br_lnegT] <;> omega)); done)))
            | refine rb_M_say_0 ?_
            | refine rb_M_say_9 ?_
            | refine rb_M_say_16 ?_
            | refine rb_M_say_25 ?_
            | refine rb_M_say_37 ?_
            | (refine rs_wi_T ?_ ?_; (focus ((first | rfl | assumption | exact fun z => z rfl | omega | (simp (disch := omega) only [not_true_eq_false, not_false_eq_true, br_u_s, br_u_n, br_u_q, nI_eq, nI_clamp, nI_add, pk_mul, br_R17, br_S17, pk_sub_toInt, br_ltT, br_leT, br_inT, br_nT, br_negT, br_b_0, br_b_1, Int32.toInt_toInt64, pk_lT, br_lnegT] <;> omega)); done)))
            | (refine rs_wi_F ?_ ?_; (focus ((first | rfl | assumption | exact fun z => z rfl | omega | (simp (disch := omega) only [not_true_eq_false, not_false_eq_true, br_u_s, br_u_n, br_u_q, nI_eq, nI_clamp, nI_add, pk_mul, br_R17, br_S17, pk_sub_toInt, br_ltT, br_leT, br_inT, br_nT, br_negT, br_b_0, br_b_1, Int32.toInt_toInt64, pk_lT, br_lnegT] <;> omega)); done)))
            | (refine rs_isChild_T (N := N) ?_ ?_ ?_ ?_; (focus ((first | rfl | assumption | exact fun z => z rfl | omega | (simp (disch := omega) only [not_true_eq_false, not_false_eq_true, br_u_s, br_u_n, br_u_q, nI_eq, nI_clamp, nI_add, pk_mul, br_R17, br_S17, pk_sub_toInt, br_ltT, br_leT, br_inT, br_nT, br_negT, br_b_0, br_b_1, Int32.toInt_toInt64, pk_lT, br_lnegT] <;> omega)); done)); (focus ((first | rfl | assumption | exact fun z => z rfl | omega | (simp (disch := omega) only [not_true_eq_false, not_false_eq_true, br_u_s, br_u_n, br_u_q, nI_eq, nI_clamp, nI_add, pk_mul, br_R17, br_S17, pk_sub_toInt, br_ltT, br_leT, br_inT, br_nT, br_negT, br_b_0, br_b_1, Int32.toInt_toInt64, pk_lT, br_lnegT] <;> omega)); done)); (focus ((first | rfl | assumption | exact fun z => z rfl | omega | (simp (disch := omega) only [not_true_eq_false, not_false_eq_true, br_u_s, br_u_n, br_u_q, nI_eq, nI_clamp, nI_add, pk_mul, br_R17, br_S17, pk_sub_toInt, br_ltT, br_leT, br_inT, br_nT, br_negT, br_b_0, br_b_1, Int32.toInt_toInt64, pk_lT, br_lnegT] <;> omega)); done)))
            | (refine rs_isChild_F (N := N) ?_ ?_ ?_ ?_; (focus ((first | rfl | assumption | exact fun z => z rfl | omega | (simp (disch := omega) only [not_true_eq_false, not_false_eq_true, br_u_s, br_u_n, br_u_q, nI_eq, nI_clamp, nI_add, pk_mul, br_R17, br_S17, pk_sub_toInt, br_ltT, br_leT, br_inT, br_nT, br_negT, br_b_0, br_b_1, Int32.toInt_toInt64, pk_lT, br_lnegT] <;> omega)); done)); (focus ((first | rfl | assumption | exact fun z => z rfl | omega | (simp (disch := omega) only [not_true_eq_false, not_false_eq_true, br_u_s, br_u_n, br_u_q, nI_eq, nI_clamp, nI_add, pk_mul, br_R17, br_S17, pk_sub_toInt, br_ltT, br_leT, br_inT, br_nT, br_negT, br_b_0, br_b_1, Int32.toInt_toInt64, pk_lT, br_lnegT] <;> omega)); done)); (focus ((first | rfl | assumption | exact fun z => z rfl | omega | (simp (disch := omega) only [not_true_eq_false, not_false_eq_true, br_u_s, br_u_n, br_u_q, nI_eq, nI_clamp, nI_add, pk_mul, br_R17, br_S17, pk_sub_toInt, br_ltT, br_leT, br_inT, br_nT, br_negT, br_b_0, br_b_1, Int32.toInt_toInt64, pk_lT, br_lnegT] <;> omega)); done)))
            | (refine rs_isTest_T ?_ ?_; (focus ((first | rfl | assumption | exact fun z => z rfl | omega | (simp (disch := omega) only [not_true_eq_false, not_false_eq_true, br_u_s, br_u_n, br_u_q, nI_eq, nI_clamp, nI_add, pk_mul, br_R17, br_S17, pk_sub_toInt, br_ltT, br_leT, br_inT, br_nT, br_negT, br_b_0, br_b_1, Int32.toInt_toInt64, pk_lT, br_lnegT] <;> omega)); done)))
            | (refine rs_isTest_F ?_ ?_; (focus ((first | rfl | assumption | exact fun z => z rfl | omega | (simp (disch := omega) only [not_true_eq_false, not_false_eq_true, br_u_s, br_u_n, br_u_q, nI_eq, nI_clamp, nI_add, pk_mul, br_R17, br_S17, pk_sub_toInt, br_ltT, br_leT, br_inT, br_nT, br_negT, br_b_0, br_b_1, Int32.toInt_toInt64, pk_lT, br_lnegT] <;> omega)); done)))
            | (refine rs_no ?_ ?_; (focus ((first | rfl | assumption | exact fun z => z rfl | omega | (simp (disch := omega) only [not_true_eq_false, not_false_eq_true, br_u_s, br_u_n, br_u_q, nI_eq, nI_clamp, nI_add, pk_mul, br_R17, br_S17, pk_sub_toInt, br_ltT, br_leT, br_inT, br_nT, br_negT, br_b_0, br_b_1, Int32.toInt_toInt64, pk_lT, br_lnegT] <;> omega)); done)))
            | (refine rs_pointOf ?_ ?_ ?_; (focus ((first | rfl | assumption | exact fun z => z rfl | omega | (simp (disch := omega) only [not_true_eq_false, not_false_eq_true, br_u_s, br_u_n, br_u_q, nI_eq, nI_clamp, nI_add, pk_mul, br_R17, br_S17, pk_sub_toInt, br_ltT, br_leT, br_inT, br_nT, br_negT, br_b_0, br_b_1, Int32.toInt_toInt64, pk_lT, br_lnegT] <;> omega)); done)); (focus ((first | rfl | assumption | exact fun z => z rfl | omega | (simp (disch := omega) only [not_true_eq_false, not_false_eq_true, br_u_s, br_u_n, br_u_q, nI_eq, nI_clamp, nI_add, pk_mul, br_R17, br_S17, pk_sub_toInt, br_ltT, br_leT, br_inT, br_nT, br_negT, br_b_0, br_b_1, Int32.toInt_toInt64, pk_lT, br_lnegT] <;> omega)); done)))
            | (refine And.intro ?_ ?_; (focus ((first | rfl | assumption | exact fun z => z rfl | omega | (simp (disch := omega) only [not_true_eq_false, not_false_eq_true, br_u_s, br_u_n, br_u_q, nI_eq, nI_clamp, nI_add, pk_mul, br_R17, br_S17, pk_sub_toInt, br_ltT, br_leT, br_inT, br_nT, br_negT, br_b_0, br_b_1, Int32.toInt_toInt64, pk_lT, br_lnegT] <;> omega)); done))))
      · obtain ⟨a, ha, rfl⟩ := br_of (N := 6) (br_inT.mpr h2)
        obtain ⟨b, hb, rfl⟩ := br_of (N := 6) (br_inT.mpr h3)
        obtain ⟨m, ht, hrg⟩ := br_rg_of hI.1.2.2
        have hroom := br_room18 hI hN eN
        have hrR : ∀ c, c < N → ∃ r, r < R ∧ I 171 (667 + c) = nI r := fun c hc => by
          obtain ⟨r, q1, q2⟩ := a3 c hc
          rw [Nat.zero_add] at q2
          exact ⟨r, q1, q2⟩
        intro d Q K
        have fin : ∀ (J1 : Nat → Nat → Int32) (L1 : Nat → Nat → Int64), (∀ p j, ¬ (64 ≤ p ∧ p ≤ 71) → J1 p j = I p j) → (∀ q j, q ≠ 70 → q ≠ 74 → q ≠ 73 → L1 q j = L q j) → Q (some (.int (nI (sy_v (I 171) N a b)))) (br_hp n J1 L1) := by
          intro J1 L1 hJ1 hL1
          have j171 : br_u J1 169 0 (nI 0) 171 = I 171 := by rw [br_u_q (by omega)]; funext j; exact hJ1 171 j (by omega)
          have wy : br_wy (br_u J1 169 0 (nI 0)) L1 := br_wy_c hI.2.2.2.2 (by rw [br_u_n (by omega)]; exact hJ1 169 25 (by omega)) (by rw [br_u_n (by omega)]; exact hJ1 169 26 (by omega)) (fun j => hL1 177 j (by omega) (by omega) (by omega))
          refine K _ J1 L1 (fun j => hJ1 1 j (by omega)) (fun d' Q' k' => rb_M_say_0 (rs_isTest_T h2 (rb_M_say_9 (br_f br_10 (rs_isTest_T h3 (rb_M_say_16 (br_t br_10 (br_t h4 (rs_M_says (d := d' + 72) ha hb j171 hI.1 rfl hrg hN eN eR hR hrR wy (fun J4 L4 hJ4 hL4 wy4 => rb_M_say_55 ?_))))))))))
          have hf := hI.2.2.2.1
          refine k' J4 _ (br_Inv_a hI (fun p j hp => ?_) (fun p j q1 q2 q3 => ?_) ?_ ?_ ?_ (br_wy_c wy4 rfl rfl (fun j => by rw [br_u_n (by omega), br_u_n (by omega)])))
          · unfold br_scA at hp
            rw [hJ4 p j (by omega) (by omega) (by omega), br_u_n (by omega), hJ1 p j (by omega)]
          · rw [br_u_n (by omega), br_u_n (by omega), hL4 p j q3 q2, hL1 p j (by omega) (by omega) (by omega)]
          · rw [br_u_n (by omega), br_u_n (by omega), br_u_n (by omega), br_u_s, hL4 72 0 (by omega) (by omega), hL1 72 0 (by omega) (by omega) (by omega), hL1 169 19 (by omega) (by omega) (by omega)]; exact hf.1
          · rw [br_u_n (by omega), br_u_n (by omega), br_u_s, hL4 72 1 (by omega) (by omega), hL1 72 1 (by omega) (by omega) (by omega), hL1 169 20 (by omega) (by omega) (by omega)]; exact hf.2.1
          · rw [br_u_n (by omega), br_u_n (by omega), hL4 72 1 (by omega) (by omega), hL1 72 1 (by omega) (by omega) (by omega)]; exact hf.2.2
        refine rb_A_say_0 (rs_noTest_F h2 (rb_A_say_4 (br_f (fun z => z rfl) (rs_noTest_F h3 ?_))))
        exact rs_A_says (d := d + 72) rfl rfl ha hb h4 hI.1 rfl hN eN hroom fin
    · refine br_pair_no hI (k := 2) (by omega) (v := -(nI 2)) (fun d Q H => ?_) (fun d Q H => ?_)
      · repeat (first
          | exact H
          | (refine br_t ?_ ?_; (focus ((first | rfl | assumption | exact fun z => z rfl | omega | (simp (disch := omega) only [not_true_eq_false, not_false_eq_true, br_u_s, br_u_n, br_u_q, nI_eq, nI_clamp, nI_add, pk_mul, br_R17, br_S17, pk_sub_toInt, br_ltT, br_leT, br_inT, br_nT, br_negT, br_b_0, br_b_1, Int32.toInt_toInt64, pk_lT, br_lnegT] <;> omega)); done)))
          | (refine br_f ?_ ?_; (focus ((first | rfl | assumption | exact fun z => z rfl | omega | (simp (disch := omega) only [not_true_eq_false, not_false_eq_true, br_u_s, br_u_n, br_u_q, nI_eq, nI_clamp, nI_add, pk_mul, br_R17, br_S17, pk_sub_toInt, br_ltT, br_leT, br_inT, br_nT, br_negT, br_b_0, br_b_1, Int32.toInt_toInt64, pk_lT, br_lnegT] <;> omega)); done)))
          | refine rb_A_say_0 ?_
          | refine rb_A_say_4 ?_
          | refine rb_A_say_11 ?_
          | refine rb_A_say_19 ?_
          | refine rb_A_say_30 ?_
          | (refine rs_out_F ?_ ?_; (focus ((first | rfl | assumption | exact fun z => z rfl | omega | (simp (disch := omega) only [not_true_eq_false, not_false_eq_true, br_u_s, br_u_n, br_u_q, nI_eq, nI_clamp, nI_add, pk_mul, br_R17, br_S17, pk_sub_toInt, br_ltT, br_leT, br_inT, br_nT, br_negT, br_b_0, br_b_1, Int32.toInt_toInt64, pk_lT, br_lnegT] <;> omega)); done)))
          | (refine rs_out_T ?_ ?_; (focus ((first | rfl | assumption | exact fun z => z rfl | omega | (simp (disch := omega) only [not_true_eq_false, not_false_eq_true, br_u_s, br_u_n, br_u_q, nI_eq, nI_clamp, nI_add, pk_mul, br_R17, br_S17, pk_sub_toInt, br_ltT, br_leT, br_inT, br_nT, br_negT, br_b_0, br_b_1, Int32.toInt_toInt64, pk_lT, br_lnegT] <;> omega)); done)))
          | (refine rs_noChild_F (N := N) ?_ ?_ ?_ ?_; (focus ((first | rfl | assumption | exact fun z => z rfl | omega | (simp (disch := omega) only [not_true_eq_false, not_false_eq_true, br_u_s, br_u_n, br_u_q, nI_eq, nI_clamp, nI_add, pk_mul, br_R17, br_S17, pk_sub_toInt, br_ltT, br_leT, br_inT, br_nT, br_negT, br_b_0, br_b_1, Int32.toInt_toInt64, pk_lT, br_lnegT] <;> omega)); done)); (focus ((first | rfl | assumption | exact fun z => z rfl | omega | (simp (disch := omega) only [not_true_eq_false, not_false_eq_true, br_u_s, br_u_n, br_u_q, nI_eq, nI_clamp, nI_add, pk_mul, br_R17, br_S17, pk_sub_toInt, br_ltT, br_leT, br_inT, br_nT, br_negT, br_b_0, br_b_1, Int32.toInt_toInt64, pk_lT, br_lnegT] <;> omega)); done)); (focus ((first | rfl | assumption | exact fun z => z rfl | omega | (simp (disch := omega) only [not_true_eq_false, not_false_eq_true, br_u_s, br_u_n, br_u_q, nI_eq, nI_clamp, nI_add, pk_mul, br_R17, br_S17, pk_sub_toInt, br_ltT, br_leT, br_inT, br_nT, br_negT, br_b_0, br_b_1, Int32.toInt_toInt64, pk_lT, br_lnegT] <;> omega)); done)))
          | (refine rs_noChild_T (N := N) ?_ ?_ ?_ ?_; (focus ((first | rfl | assumption | exact fun z => z rfl | omega | (simp (disch := omega) only [not_true_eq_false, not_false_eq_true, br_u_s, br_u_n, br_u_q, nI_eq, nI_clamp, nI_add, pk_mul, br_R17, br_S17, pk_sub_toInt, br_ltT, br_leT, br_inT, br_nT, br_negT, br_b_0, br_b_1, Int32.toInt_toInt64, pk_lT, br_lnegT] <;> omega)); done)); (focus ((first | rfl | assumption | exact fun z => z rfl | omega | (simp (disch := omega) only [not_true_eq_false, not_false_eq_true, br_u_s, br_u_n, br_u_q, nI_eq, nI_clamp, nI_add, pk_mul, br_R17, br_S17, pk_sub_toInt, br_ltT, br_leT, br_inT, br_nT, br_negT, br_b_0, br_b_1, Int32.toInt_toInt64, pk_lT, br_lnegT] <;> omega)); done)); (focus ((first | rfl | assumption | exact fun z => z rfl | omega | (simp (disch := omega) only [not_true_eq_false, not_false_eq_true, br_u_s, br_u_n, br_u_q, nI_eq, nI_clamp, nI_add, pk_mul, br_R17, br_S17, pk_sub_toInt, br_ltT, br_leT, br_inT, br_nT, br_negT, br_b_0, br_b_1, Int32.toInt_toInt64, pk_lT, br_lnegT] <;> omega)); done)))
          | (refine rs_noTest_F ?_ ?_; (focus ((first | rfl | assumption | exact fun z => z rfl | omega | (simp (disch := omega) only [not_true_eq_false, not_false_eq_true, br_u_s, br_u_n, br_u_q, nI_eq, nI_clamp, nI_add, pk_mul, br_R17, br_S17, pk_sub_toInt, br_ltT, br_leT, br_inT, br_nT, br_negT, br_b_0, br_b_1, Int32.toInt_toInt64, pk_lT, br_lnegT] <;> omega)); done)))
          | (refine rs_noTest_T ?_ ?_; (focus ((first | rfl | assumption | exact fun z => z rfl | omega | (simp (disch := omega) only [not_true_eq_false, not_false_eq_true, br_u_s, br_u_n, br_u_q, nI_eq, nI_clamp, nI_add, pk_mul, br_R17, br_S17, pk_sub_toInt, br_ltT, br_leT, br_inT, br_nT, br_negT, br_b_0, br_b_1, Int32.toInt_toInt64, pk_lT, br_lnegT] <;> omega)); done)))
          | (refine rs_refuse ?_ ?_; (focus ((first | rfl | assumption | exact fun z => z rfl | omega | (simp (disch := omega) only [not_true_eq_false, not_false_eq_true, br_u_s, br_u_n, br_u_q, nI_eq, nI_clamp, nI_add, pk_mul, br_R17, br_S17, pk_sub_toInt, br_ltT, br_leT, br_inT, br_nT, br_negT, br_b_0, br_b_1, Int32.toInt_toInt64, pk_lT, br_lnegT] <;> omega)); done)))
          | (refine And.intro ?_ ?_; (focus ((first | rfl | assumption | exact fun z => z rfl | omega | (simp (disch := omega) only [not_true_eq_false, not_false_eq_true, br_u_s, br_u_n, br_u_q, nI_eq, nI_clamp, nI_add, pk_mul, br_R17, br_S17, pk_sub_toInt, br_ltT, br_leT, br_inT, br_nT, br_negT, br_b_0, br_b_1, Int32.toInt_toInt64, pk_lT, br_lnegT] <;> omega)); done))))
      · repeat (first
          | exact H
          | (refine br_t ?_ ?_; (focus ((first | rfl | assumption | exact fun z => z rfl | omega | (simp (disch := omega) only [not_true_eq_false, not_false_eq_true, br_u_s, br_u_n, br_u_q, nI_eq, nI_clamp, nI_add, pk_mul, br_R17, br_S17, pk_sub_toInt, br_ltT, br_leT, br_inT, br_nT, br_negT, br_b_0, br_b_1, Int32.toInt_toInt64, pk_lT, br_lnegT] <;> omega)); done)))
          | (refine br_f ?_ ?_; (focus ((first | rfl | assumption | exact fun z => z rfl | omega | (simp (disch := omega) only [not_true_eq_false, not_false_eq_true, br_u_s, br_u_n, br_u_q, nI_eq, nI_clamp, nI_add, pk_mul, br_R17, br_S17, pk_sub_toInt, br_ltT, br_leT, br_inT, br_nT, br_negT, br_b_0, br_b_1, Int32.toInt_toInt64, pk_lT, br_lnegT] <;> omega)); done)))
          | refine rb_M_say_0 ?_
          | refine rb_M_say_9 ?_
          | refine rb_M_say_16 ?_
          | refine rb_M_say_25 ?_
          | refine rb_M_say_37 ?_
          | (refine rs_wi_T ?_ ?_; (focus ((first | rfl | assumption | exact fun z => z rfl | omega | (simp (disch := omega) only [not_true_eq_false, not_false_eq_true, br_u_s, br_u_n, br_u_q, nI_eq, nI_clamp, nI_add, pk_mul, br_R17, br_S17, pk_sub_toInt, br_ltT, br_leT, br_inT, br_nT, br_negT, br_b_0, br_b_1, Int32.toInt_toInt64, pk_lT, br_lnegT] <;> omega)); done)))
          | (refine rs_wi_F ?_ ?_; (focus ((first | rfl | assumption | exact fun z => z rfl | omega | (simp (disch := omega) only [not_true_eq_false, not_false_eq_true, br_u_s, br_u_n, br_u_q, nI_eq, nI_clamp, nI_add, pk_mul, br_R17, br_S17, pk_sub_toInt, br_ltT, br_leT, br_inT, br_nT, br_negT, br_b_0, br_b_1, Int32.toInt_toInt64, pk_lT, br_lnegT] <;> omega)); done)))
          | (refine rs_isChild_T (N := N) ?_ ?_ ?_ ?_; (focus ((first | rfl | assumption | exact fun z => z rfl | omega | (simp (disch := omega) only [not_true_eq_false, not_false_eq_true, br_u_s, br_u_n, br_u_q, nI_eq, nI_clamp, nI_add, pk_mul, br_R17, br_S17, pk_sub_toInt, br_ltT, br_leT, br_inT, br_nT, br_negT, br_b_0, br_b_1, Int32.toInt_toInt64, pk_lT, br_lnegT] <;> omega)); done)); (focus ((first | rfl | assumption | exact fun z => z rfl | omega | (simp (disch := omega) only [not_true_eq_false, not_false_eq_true, br_u_s, br_u_n, br_u_q, nI_eq, nI_clamp, nI_add, pk_mul, br_R17, br_S17, pk_sub_toInt, br_ltT, br_leT, br_inT, br_nT, br_negT, br_b_0, br_b_1, Int32.toInt_toInt64, pk_lT, br_lnegT] <;> omega)); done)); (focus ((first | rfl | assumption | exact fun z => z rfl | omega | (simp (disch := omega) only [not_true_eq_false, not_false_eq_true, br_u_s, br_u_n, br_u_q, nI_eq, nI_clamp, nI_add, pk_mul, br_R17, br_S17, pk_sub_toInt, br_ltT, br_leT, br_inT, br_nT, br_negT, br_b_0, br_b_1, Int32.toInt_toInt64, pk_lT, br_lnegT] <;> omega)); done)))
          | (refine rs_isChild_F (N := N) ?_ ?_ ?_ ?_; (focus ((first | rfl | assumption | exact fun z => z rfl | omega | (simp (disch := omega) only [not_true_eq_false, not_false_eq_true, br_u_s, br_u_n, br_u_q, nI_eq, nI_clamp, nI_add, pk_mul, br_R17, br_S17, pk_sub_toInt, br_ltT, br_leT, br_inT, br_nT, br_negT, br_b_0, br_b_1, Int32.toInt_toInt64, pk_lT, br_lnegT] <;> omega)); done)); (focus ((first | rfl | assumption | exact fun z => z rfl | omega | (simp (disch := omega) only [not_true_eq_false, not_false_eq_true, br_u_s, br_u_n, br_u_q, nI_eq, nI_clamp, nI_add, pk_mul, br_R17, br_S17, pk_sub_toInt, br_ltT, br_leT, br_inT, br_nT, br_negT, br_b_0, br_b_1, Int32.toInt_toInt64, pk_lT, br_lnegT] <;> omega)); done)); (focus ((first | rfl | assumption | exact fun z => z rfl | omega | (simp (disch := omega) only [not_true_eq_false, not_false_eq_true, br_u_s, br_u_n, br_u_q, nI_eq, nI_clamp, nI_add, pk_mul, br_R17, br_S17, pk_sub_toInt, br_ltT, br_leT, br_inT, br_nT, br_negT, br_b_0, br_b_1, Int32.toInt_toInt64, pk_lT, br_lnegT] <;> omega)); done)))
          | (refine rs_isTest_T ?_ ?_; (focus ((first | rfl | assumption | exact fun z => z rfl | omega | (simp (disch := omega) only [not_true_eq_false, not_false_eq_true, br_u_s, br_u_n, br_u_q, nI_eq, nI_clamp, nI_add, pk_mul, br_R17, br_S17, pk_sub_toInt, br_ltT, br_leT, br_inT, br_nT, br_negT, br_b_0, br_b_1, Int32.toInt_toInt64, pk_lT, br_lnegT] <;> omega)); done)))
          | (refine rs_isTest_F ?_ ?_; (focus ((first | rfl | assumption | exact fun z => z rfl | omega | (simp (disch := omega) only [not_true_eq_false, not_false_eq_true, br_u_s, br_u_n, br_u_q, nI_eq, nI_clamp, nI_add, pk_mul, br_R17, br_S17, pk_sub_toInt, br_ltT, br_leT, br_inT, br_nT, br_negT, br_b_0, br_b_1, Int32.toInt_toInt64, pk_lT, br_lnegT] <;> omega)); done)))
          | (refine rs_no ?_ ?_; (focus ((first | rfl | assumption | exact fun z => z rfl | omega | (simp (disch := omega) only [not_true_eq_false, not_false_eq_true, br_u_s, br_u_n, br_u_q, nI_eq, nI_clamp, nI_add, pk_mul, br_R17, br_S17, pk_sub_toInt, br_ltT, br_leT, br_inT, br_nT, br_negT, br_b_0, br_b_1, Int32.toInt_toInt64, pk_lT, br_lnegT] <;> omega)); done)))
          | (refine rs_pointOf ?_ ?_ ?_; (focus ((first | rfl | assumption | exact fun z => z rfl | omega | (simp (disch := omega) only [not_true_eq_false, not_false_eq_true, br_u_s, br_u_n, br_u_q, nI_eq, nI_clamp, nI_add, pk_mul, br_R17, br_S17, pk_sub_toInt, br_ltT, br_leT, br_inT, br_nT, br_negT, br_b_0, br_b_1, Int32.toInt_toInt64, pk_lT, br_lnegT] <;> omega)); done)); (focus ((first | rfl | assumption | exact fun z => z rfl | omega | (simp (disch := omega) only [not_true_eq_false, not_false_eq_true, br_u_s, br_u_n, br_u_q, nI_eq, nI_clamp, nI_add, pk_mul, br_R17, br_S17, pk_sub_toInt, br_ltT, br_leT, br_inT, br_nT, br_negT, br_b_0, br_b_1, Int32.toInt_toInt64, pk_lT, br_lnegT] <;> omega)); done)))
          | (refine And.intro ?_ ?_; (focus ((first | rfl | assumption | exact fun z => z rfl | omega | (simp (disch := omega) only [not_true_eq_false, not_false_eq_true, br_u_s, br_u_n, br_u_q, nI_eq, nI_clamp, nI_add, pk_mul, br_R17, br_S17, pk_sub_toInt, br_ltT, br_leT, br_inT, br_nT, br_negT, br_b_0, br_b_1, Int32.toInt_toInt64, pk_lT, br_lnegT] <;> omega)); done))))
  · refine br_pair_no hI (k := 2) (by omega) (v := -(nI 2)) (fun d Q H => ?_) (fun d Q H => ?_)
    · repeat (first
        | exact H
        | (refine br_t ?_ ?_; (focus ((first | rfl | assumption | exact fun z => z rfl | omega | (simp (disch := omega) only [not_true_eq_false, not_false_eq_true, br_u_s, br_u_n, br_u_q, nI_eq, nI_clamp, nI_add, pk_mul, br_R17, br_S17, pk_sub_toInt, br_ltT, br_leT, br_inT, br_nT, br_negT, br_b_0, br_b_1, Int32.toInt_toInt64, pk_lT, br_lnegT] <;> omega)); done)))
        | (refine br_f ?_ ?_; (focus ((first | rfl | assumption | exact fun z => z rfl | omega | (simp (disch := omega) only [not_true_eq_false, not_false_eq_true, br_u_s, br_u_n, br_u_q, nI_eq, nI_clamp, nI_add, pk_mul, br_R17, br_S17, pk_sub_toInt, br_ltT, br_leT, br_inT, br_nT, br_negT, br_b_0, br_b_1, Int32.toInt_toInt64, pk_lT, br_lnegT] <;> omega)); done)))
        | refine rb_A_say_0 ?_
        | refine rb_A_say_4 ?_
        | refine rb_A_say_11 ?_
        | refine rb_A_say_19 ?_
        | refine rb_A_say_30 ?_
        | (refine rs_out_F ?_ ?_; (focus ((first | rfl | assumption | exact fun z => z rfl | omega | (simp (disch := omega) only [not_true_eq_false, not_false_eq_true, br_u_s, br_u_n, br_u_q, nI_eq, nI_clamp, nI_add, pk_mul, br_R17, br_S17, pk_sub_toInt, br_ltT, br_leT, br_inT, br_nT, br_negT, br_b_0, br_b_1, Int32.toInt_toInt64, pk_lT, br_lnegT] <;> omega)); done)))
        | (refine rs_out_T ?_ ?_; (focus ((first | rfl | assumption | exact fun z => z rfl | omega | (simp (disch := omega) only [not_true_eq_false, not_false_eq_true, br_u_s, br_u_n, br_u_q, nI_eq, nI_clamp, nI_add, pk_mul, br_R17, br_S17, pk_sub_toInt, br_ltT, br_leT, br_inT, br_nT, br_negT, br_b_0, br_b_1, Int32.toInt_toInt64, pk_lT, br_lnegT] <;> omega)); done)))
        | (refine rs_noChild_F (N := N) ?_ ?_ ?_ ?_; (focus ((first | rfl | assumption | exact fun z => z rfl | omega | (simp (disch := omega) only [not_true_eq_false, not_false_eq_true, br_u_s, br_u_n, br_u_q, nI_eq, nI_clamp, nI_add, pk_mul, br_R17, br_S17, pk_sub_toInt, br_ltT, br_leT, br_inT, br_nT, br_negT, br_b_0, br_b_1, Int32.toInt_toInt64, pk_lT, br_lnegT] <;> omega)); done)); (focus ((first | rfl | assumption | exact fun z => z rfl | omega | (simp (disch := omega) only [not_true_eq_false, not_false_eq_true, br_u_s, br_u_n, br_u_q, nI_eq, nI_clamp, nI_add, pk_mul, br_R17, br_S17, pk_sub_toInt, br_ltT, br_leT, br_inT, br_nT, br_negT, br_b_0, br_b_1, Int32.toInt_toInt64, pk_lT, br_lnegT] <;> omega)); done)); (focus ((first | rfl | assumption | exact fun z => z rfl | omega | (simp (disch := omega) only [not_true_eq_false, not_false_eq_true, br_u_s, br_u_n, br_u_q, nI_eq, nI_clamp, nI_add, pk_mul, br_R17, br_S17, pk_sub_toInt, br_ltT, br_leT, br_inT, br_nT, br_negT, br_b_0, br_b_1, Int32.toInt_toInt64, pk_lT, br_lnegT] <;> omega)); done)))
        | (refine rs_noChild_T (N := N) ?_ ?_ ?_ ?_; (focus ((first | rfl | assumption | exact fun z => z rfl | omega | (simp (disch := omega) only [not_true_eq_false, not_false_eq_true, br_u_s, br_u_n, br_u_q, nI_eq, nI_clamp, nI_add, pk_mul, br_R17, br_S17, pk_sub_toInt, br_ltT, br_leT, br_inT, br_nT, br_negT, br_b_0, br_b_1, Int32.toInt_toInt64, pk_lT, br_lnegT] <;> omega)); done)); (focus ((first | rfl | assumption | exact fun z => z rfl | omega | (simp (disch := omega) only [not_true_eq_false, not_false_eq_true, br_u_s, br_u_n, br_u_q, nI_eq, nI_clamp, nI_add, pk_mul, br_R17, br_S17, pk_sub_toInt, br_ltT, br_leT, br_inT, br_nT, br_negT, br_b_0, br_b_1, Int32.toInt_toInt64, pk_lT, br_lnegT] <;> omega)); done)); (focus ((first | rfl | assumption | exact fun z => z rfl | omega | (simp (disch := omega) only [not_true_eq_false, not_false_eq_true, br_u_s, br_u_n, br_u_q, nI_eq, nI_clamp, nI_add, pk_mul, br_R17, br_S17, pk_sub_toInt, br_ltT, br_leT, br_inT, br_nT, br_negT, br_b_0, br_b_1, Int32.toInt_toInt64, pk_lT, br_lnegT] <;> omega)); done)))
        | (refine rs_noTest_F ?_ ?_; (focus ((first | rfl | assumption | exact fun z => z rfl | omega | (simp (disch := omega) only [not_true_eq_false, not_false_eq_true, br_u_s, br_u_n, br_u_q, nI_eq, nI_clamp, nI_add, pk_mul, br_R17, br_S17, pk_sub_toInt, br_ltT, br_leT, br_inT, br_nT, br_negT, br_b_0, br_b_1, Int32.toInt_toInt64, pk_lT, br_lnegT] <;> omega)); done)))
        | (refine rs_noTest_T ?_ ?_; (focus ((first | rfl | assumption | exact fun z => z rfl | omega | (simp (disch := omega) only [not_true_eq_false, not_false_eq_true, br_u_s, br_u_n, br_u_q, nI_eq, nI_clamp, nI_add, pk_mul, br_R17, br_S17, pk_sub_toInt, br_ltT, br_leT, br_inT, br_nT, br_negT, br_b_0, br_b_1, Int32.toInt_toInt64, pk_lT, br_lnegT] <;> omega)); done)))
        | (refine rs_refuse ?_ ?_; (focus ((first | rfl | assumption | exact fun z => z rfl | omega | (simp (disch := omega) only [not_true_eq_false, not_false_eq_true, br_u_s, br_u_n, br_u_q, nI_eq, nI_clamp, nI_add, pk_mul, br_R17, br_S17, pk_sub_toInt, br_ltT, br_leT, br_inT, br_nT, br_negT, br_b_0, br_b_1, Int32.toInt_toInt64, pk_lT, br_lnegT] <;> omega)); done)))
        | (refine And.intro ?_ ?_; (focus ((first | rfl | assumption | exact fun z => z rfl | omega | (simp (disch := omega) only [not_true_eq_false, not_false_eq_true, br_u_s, br_u_n, br_u_q, nI_eq, nI_clamp, nI_add, pk_mul, br_R17, br_S17, pk_sub_toInt, br_ltT, br_leT, br_inT, br_nT, br_negT, br_b_0, br_b_1, Int32.toInt_toInt64, pk_lT, br_lnegT] <;> omega)); done))))
    · repeat (first
        | exact H
        | (refine br_t ?_ ?_; (focus ((first | rfl | assumption | exact fun z => z rfl | omega | (simp (disch := omega) only [not_true_eq_false, not_false_eq_true, br_u_s, br_u_n, br_u_q, nI_eq, nI_clamp, nI_add, pk_mul, br_R17, br_S17, pk_sub_toInt, br_ltT, br_leT, br_inT, br_nT, br_negT, br_b_0, br_b_1, Int32.toInt_toInt64, pk_lT, br_lnegT] <;> omega)); done)))
        | (refine br_f ?_ ?_; (focus ((first | rfl | assumption | exact fun z => z rfl | omega | (simp (disch := omega) only [not_true_eq_false, not_false_eq_true, br_u_s, br_u_n, br_u_q, nI_eq, nI_clamp, nI_add, pk_mul, br_R17, br_S17, pk_sub_toInt, br_ltT, br_leT, br_inT, br_nT, br_negT, br_b_0, br_b_1, Int32.toInt_toInt64, pk_lT, br_lnegT] <;> omega)); done)))
        | refine rb_M_say_0 ?_
        | refine rb_M_say_9 ?_
        | refine rb_M_say_16 ?_
        | refine rb_M_say_25 ?_
        | refine rb_M_say_37 ?_
        | (refine rs_wi_T ?_ ?_; (focus ((first | rfl | assumption | exact fun z => z rfl | omega | (simp (disch := omega) only [not_true_eq_false, not_false_eq_true, br_u_s, br_u_n, br_u_q, nI_eq, nI_clamp, nI_add, pk_mul, br_R17, br_S17, pk_sub_toInt, br_ltT, br_leT, br_inT, br_nT, br_negT, br_b_0, br_b_1, Int32.toInt_toInt64, pk_lT, br_lnegT] <;> omega)); done)))
        | (refine rs_wi_F ?_ ?_; (focus ((first | rfl | assumption | exact fun z => z rfl | omega | (simp (disch := omega) only [not_true_eq_false, not_false_eq_true, br_u_s, br_u_n, br_u_q, nI_eq, nI_clamp, nI_add, pk_mul, br_R17, br_S17, pk_sub_toInt, br_ltT, br_leT, br_inT, br_nT, br_negT, br_b_0, br_b_1, Int32.toInt_toInt64, pk_lT, br_lnegT] <;> omega)); done)))
        | (refine rs_isChild_T (N := N) ?_ ?_ ?_ ?_; (focus ((first | rfl | assumption | exact fun z => z rfl | omega | (simp (disch := omega) only [not_true_eq_false, not_false_eq_true, br_u_s, br_u_n, br_u_q, nI_eq, nI_clamp, nI_add, pk_mul, br_R17, br_S17, pk_sub_toInt, br_ltT, br_leT, br_inT, br_nT, br_negT, br_b_0, br_b_1, Int32.toInt_toInt64, pk_lT, br_lnegT] <;> omega)); done)); (focus ((first | rfl | assumption | exact fun z => z rfl | omega | (simp (disch := omega) only [not_true_eq_false, not_false_eq_true, br_u_s, br_u_n, br_u_q, nI_eq, nI_clamp, nI_add, pk_mul, br_R17, br_S17, pk_sub_toInt, br_ltT, br_leT, br_inT, br_nT, br_negT, br_b_0, br_b_1, Int32.toInt_toInt64, pk_lT, br_lnegT] <;> omega)); done)); (focus ((first | rfl | assumption | exact fun z => z rfl | omega | (simp (disch := omega) only [not_true_eq_false, not_false_eq_true, br_u_s, br_u_n, br_u_q, nI_eq, nI_clamp, nI_add, pk_mul, br_R17, br_S17, pk_sub_toInt, br_ltT, br_leT, br_inT, br_nT, br_negT, br_b_0, br_b_1, Int32.toInt_toInt64, pk_lT, br_lnegT] <;> omega)); done)))
        | (refine rs_isChild_F (N := N) ?_ ?_ ?_ ?_; (focus ((first | rfl | assumption | exact fun z => z rfl | omega | (simp (disch := omega) only [not_true_eq_false, not_false_eq_true, br_u_s, br_u_n, br_u_q, nI_eq, nI_clamp, nI_add, pk_mul, br_R17, br_S17, pk_sub_toInt, br_ltT, br_leT, br_inT, br_nT, br_negT, br_b_0, br_b_1, Int32.toInt_toInt64, pk_lT, br_lnegT] <;> omega)); done)); (focus ((first | rfl | assumption | exact fun z => z rfl | omega | (simp (disch := omega) only [not_true_eq_false, not_false_eq_true, br_u_s, br_u_n, br_u_q, nI_eq, nI_clamp, nI_add, pk_mul, br_R17, br_S17, pk_sub_toInt, br_ltT, br_leT, br_inT, br_nT, br_negT, br_b_0, br_b_1, Int32.toInt_toInt64, pk_lT, br_lnegT] <;> omega)); done)); (focus ((first | rfl | assumption | exact fun z => z rfl | omega | (simp (disch := omega) only [not_true_eq_false, not_false_eq_true, br_u_s, br_u_n, br_u_q, nI_eq, nI_clamp, nI_add, pk_mul, br_R17, br_S17, pk_sub_toInt, br_ltT, br_leT, br_inT, br_nT, br_negT, br_b_0, br_b_1, Int32.toInt_toInt64, pk_lT, br_lnegT] <;> omega)); done)))
        | (refine rs_isTest_T ?_ ?_; (focus ((first | rfl | assumption | exact fun z => z rfl | omega | (simp (disch := omega) only [not_true_eq_false, not_false_eq_true, br_u_s, br_u_n, br_u_q, nI_eq, nI_clamp, nI_add, pk_mul, br_R17, br_S17, pk_sub_toInt, br_ltT, br_leT, br_inT, br_nT, br_negT, br_b_0, br_b_1, Int32.toInt_toInt64, pk_lT, br_lnegT] <;> omega)); done)))
        | (refine rs_isTest_F ?_ ?_; (focus ((first | rfl | assumption | exact fun z => z rfl | omega | (simp (disch := omega) only [not_true_eq_false, not_false_eq_true, br_u_s, br_u_n, br_u_q, nI_eq, nI_clamp, nI_add, pk_mul, br_R17, br_S17, pk_sub_toInt, br_ltT, br_leT, br_inT, br_nT, br_negT, br_b_0, br_b_1, Int32.toInt_toInt64, pk_lT, br_lnegT] <;> omega)); done)))
        | (refine rs_no ?_ ?_; (focus ((first | rfl | assumption | exact fun z => z rfl | omega | (simp (disch := omega) only [not_true_eq_false, not_false_eq_true, br_u_s, br_u_n, br_u_q, nI_eq, nI_clamp, nI_add, pk_mul, br_R17, br_S17, pk_sub_toInt, br_ltT, br_leT, br_inT, br_nT, br_negT, br_b_0, br_b_1, Int32.toInt_toInt64, pk_lT, br_lnegT] <;> omega)); done)))
        | (refine rs_pointOf ?_ ?_ ?_; (focus ((first | rfl | assumption | exact fun z => z rfl | omega | (simp (disch := omega) only [not_true_eq_false, not_false_eq_true, br_u_s, br_u_n, br_u_q, nI_eq, nI_clamp, nI_add, pk_mul, br_R17, br_S17, pk_sub_toInt, br_ltT, br_leT, br_inT, br_nT, br_negT, br_b_0, br_b_1, Int32.toInt_toInt64, pk_lT, br_lnegT] <;> omega)); done)); (focus ((first | rfl | assumption | exact fun z => z rfl | omega | (simp (disch := omega) only [not_true_eq_false, not_false_eq_true, br_u_s, br_u_n, br_u_q, nI_eq, nI_clamp, nI_add, pk_mul, br_R17, br_S17, pk_sub_toInt, br_ltT, br_leT, br_inT, br_nT, br_negT, br_b_0, br_b_1, Int32.toInt_toInt64, pk_lT, br_lnegT] <;> omega)); done)))
        | (refine And.intro ?_ ?_; (focus ((first | rfl | assumption | exact fun z => z rfl | omega | (simp (disch := omega) only [not_true_eq_false, not_false_eq_true, br_u_s, br_u_n, br_u_q, nI_eq, nI_clamp, nI_add, pk_mul, br_R17, br_S17, pk_sub_toInt, br_ltT, br_leT, br_inT, br_nT, br_negT, br_b_0, br_b_1, Int32.toInt_toInt64, pk_lT, br_lnegT] <;> omega)); done))))
end
