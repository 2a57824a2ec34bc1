set_option maxRecDepth 100000
set_option maxHeartbeats 4000000
/-! what a fraction is less another -/
def bz_T (l k : Int64) : Prop := 0 < l.toInt ∧ 0 < k.toInt
section
variable {d n : Nat} {Q : br_Q} {I J : Nat → Nat → Int32} {L : Nat → Nat → Int64} {g : Nat → Int32}
theorem rs_subtract {p q : Nat} (hp : br_S0 n p = (0, 1)) (hq : br_S0 n q = (0, 1)) (hu : -9223372036854775808 < (L p 0 * L q 1 - L q 0 * L p 1).toInt)
    (Hyes : 0 < (L p 1).toInt ∧ 0 < (L q 1).toInt → Q none (br_hp n I (br_u (br_u L p 0 (bf_u (L p 0 * L q 1 - L q 0 * L p 1) (L p 1 * L q 1))) p 1 (bf_l (L p 0 * L q 1 - L q 0 * L p 1) (L p 1 * L q 1)))))
    (Hno : ¬ (0 < (L p 1).toInt ∧ 0 < (L q 1).toInt) → Q none (br_hp n I (br_u (br_u L p 0 (lN 0)) p 1 (lN 0)))) :
    br_r (d + 2) 131 0 [some (.ref p), some (.ref q)] [] (br_hp n I L) Q := by
  refine rb_Fraction_subtract_0 ⟨hp, rs_isNone hp (rb_Fraction_subtract_4 ⟨fun h => ⟨hp, rs_clearF hp (rb_Fraction_subtract_18 (rb_Fraction_subtract_53 (Hno ?_)))⟩, fun h => ⟨hq, rs_isNone hq (rb_Fraction_subtract_11 ⟨fun h2 => ⟨hp, hq, hq, hp, hp, hq, hp, rs_become hp hu (rb_Fraction_subtract_53 (Hyes ?_))⟩, fun h2 => ⟨hp, rs_clearF hp (rb_Fraction_subtract_18 (rb_Fraction_subtract_53 (Hno ?_)))⟩⟩)⟩⟩)⟩
  · exact fun z => h (bn_0.mpr z.1)
  · exact ⟨bn_0.mp (Classical.not_not.mp h), bn_0.mp h2⟩
  · exact fun z => h2 (bn_0.mpr z.2)
/-- both told, and the one less the other -/
theorem bz_b {u1 l1 u2 l2 : Int64} (a1 : u1.toInt.natAbs ≤ 1280000) (b1 : 0 ≤ l1.toInt ∧ l1.toInt ≤ 1600) (a2 : u2.toInt.natAbs ≤ 1280000) (b2 : 0 ≤ l2.toInt ∧ l2.toInt ≤ 1600) :
    (u1 * l2 - u2 * l1).toInt.natAbs ≤ 4096000000 ∧ (l1 * l2).toInt = l1.toInt * l2.toInt ∧ 0 ≤ (l1 * l2).toInt := by
  have m1 := bc_mulB a1 (show l2.toInt.natAbs ≤ 1600 by omega)
  have m2 := bc_mulB a2 (show l1.toInt.natAbs ≤ 1600 by omega)
  have m3 := bc_mulB (show l1.toInt.natAbs ≤ 1600 by omega) (show l2.toInt.natAbs ≤ 1600 by omega)
  have e1 : (u1 * l2).toInt = u1.toInt * l2.toInt := br_lmulT (by omega) (by omega)
  have e2 : (u2 * l1).toInt = u2.toInt * l1.toInt := br_lmulT (by omega) (by omega)
  have e3 : (l1 * l2).toInt = l1.toInt * l2.toInt := br_lmulT (by omega) (by omega)
  have e4 : (u1 * l2 - u2 * l1).toInt = (u1 * l2).toInt - (u2 * l1).toInt := br_lsubT (by omega) (by omega)
  refine ⟨by rw [e4, e1, e2]; omega, e3, by rw [e3]; exact Int.mul_nonneg b1.1 b2.1⟩
theorem bz_s {l : List bs_E} (hb : br_bl l) (hl : l.length ≤ 40) : (bf_u (bs_U l) (bs_V l)).toInt.natAbs ≤ 1280000 ∧ 0 ≤ (bf_l (bs_U l) (bs_V l)).toInt ∧ (bf_l (bs_U l) (bs_V l)).toInt ≤ 1600 := by
  have hV := bs_V_T hl
  have hU := (bs_U_T hb hl).2
  have a := bf_u_abs (u := bs_U l) (l := bs_V l) (by omega)
  refine ⟨by omega, bf_l_nn, ?_⟩
  by_cases h : 0 < (bs_V l).toInt
  · have := bf_l_pos (u := bs_U l) h
    omega
  · have : ¬ 0 < (bf_l (bs_U l) (bs_V l)).toInt := fun z => h (bf_l_iff.mp z)
    omega
theorem rs_M_made {a b N m : Nat} {ht : Nat → Nat → Nat} {z3 z4 z5 z6 z7 : Option Value} {u1 l1 u2 l2 : Int64} {s1 s2 : List bs_E} (hg : J 171 = g) (hrg : br_rg g m ht) (ha : a < 6) (hb : b < 6) (hN : g 666 = nI N) (h40 : N ≤ 40) (hroom : ∀ c, c < N → ∃ r, r < 18 ∧ g (667 + c) = nI r)
    (hs1 : bs_l (bm_rd g a b false) (bs_e g a b) N = s1) (hs2 : bs_l (bm_rd g a b true) (bs_e g a b) N = s2) (hbl1 : br_bl s1) (hbl2 : br_bl s2)
    (hu1 : bf_u (bs_U s1) (bs_V s1) = u1) (hl1 : bf_l (bs_U s1) (bs_V s1) = l1) (hu2 : bf_u (bs_U s2) (bs_V s2) = u2) (hl2 : bf_l (bs_U s2) (bs_V s2) = l2)
    (H : ∀ (J2 : Nat → Nat → Int32) (L2 : Nat → Nat → Int64), (∀ p, p ≠ 175 → p ≠ 176 → J2 p = J p) → (∀ q j, q ≠ 169 → L2 q j = L q j) → L2 169 19 = (if 0 < l1.toInt ∧ 0 < l2.toInt then bf_u (u1 * l2 - u2 * l1) (l1 * l2) else lN 0) → L2 169 20 = (if 0 < l1.toInt ∧ 0 < l2.toInt then bf_l (u1 * l2 - u2 * l1) (l1 * l2) else lN 0) → Q (some (.int (nI (decide (0 < l1.toInt ∧ 0 < l2.toInt)).toNat))) (br_hp n J2 L2)) :
    br_r (d + 4) 248 0 [some (.ref 169), some (.int (nI a)), some (.int (nI b)), z3, z4, z5, z6, z7] [] (br_hp n J L) Q := by
  have z0 : (lN 0).toInt = 0 := pk_lT (by omega)
  have ln1 : s1.length ≤ 40 := by rw [← hs1]; have := bs_l_len (P := bm_rd g a b false) (E := bs_e g a b) N; omega
  have ln2 : s2.length ≤ 40 := by rw [← hs2]; have := bs_l_len (P := bm_rd g a b true) (E := bs_e g a b) N; omega
  have c1 := bz_s hbl1 ln1
  have c2 := bz_s hbl2 ln2
  rw [hu1, hl1] at c1
  rw [hu2, hl2] at c2
  have bz := bz_b c1.1 c1.2 c2.1 c2.2
  have i1 : 0 < l1.toInt ↔ 0 < (bs_V s1).toInt := by rw [← hl1]; exact bf_l_iff
  have i2 : 0 < l2.toInt ↔ 0 < (bs_V s2).toInt := by rw [← hl2]; exact bf_l_iff
  refine rb_M_tellsMade_0 (rs_M_looksAt (clean := false) hg hrg ha hb hN h40 hroom (fun J1 hJ1 hP1 => rb_M_tellsMade_7 ?_))
  have g1 : J1 171 = g := by rw [hJ1 171 (by omega) (by omega), hg]
  refine rs_M_tellsEffect (P := bm_rd g a b false) ⟨g1, hN, h40, hP1⟩ ha hb (by rw [hs1]; exact hbl1) ?_
  rw [hs1, hu1, hl1]
  refine rb_M_tellsMade_13 ?_
  rw [br_u_s, br_u_n (by omega), br_u_s]
  refine rs_M_looksAt (clean := true) g1 hrg ha hb hN h40 hroom (fun J2 hJ2 hP2 => rb_M_tellsMade_33 ?_)
  have g2 : J2 171 = g := by rw [hJ2 171 (by omega) (by omega), g1]
  refine rs_M_tellsEffect (P := bm_rd g a b true) ⟨g2, hN, h40, hP2⟩ ha hb (by rw [hs2]; exact hbl2) ?_
  rw [hs2, hu2, hl2]
  refine rb_M_tellsMade_40 ?_
  rw [br_u_s, br_u_n (by omega), br_u_s, nI_add]
  have fr : ∀ (x y : Int64) q j, q ≠ 169 → br_u (br_u (br_u (br_u (br_u (br_u L 169 19 u1) 169 20 l1) 169 19 u2) 169 20 l2) 169 19 x) 169 20 y q j = L q j := fun x y q j a => by
    rw [br_u_n (by omega), br_u_n (by omega), br_u_n (by omega), br_u_n (by omega), br_u_n (by omega), br_u_n (by omega)]
  have fJ : ∀ p, p ≠ 175 → p ≠ 176 → J2 p = J p := fun p q1 q2 => by rw [hJ2 p q1 q2, hJ1 p q1 q2]
  by_cases h : 0 < l1.toInt ∧ 0 < l2.toInt
  · have hh : 0 < (l1 * l2).toInt := by rw [bz.2.1]; exact Int.mul_pos h.1 h.2
    rw [decide_eq_true (i1.mp h.1), decide_eq_true (i2.mp h.2)]
    refine br_t (by decide +kernel) (rs_M_tells (by omega) (by omega) (rb_M_tellsMade_82 ?_))
    have h9 := H J2 _ fJ (fr (bf_u (u1 * l2 - u2 * l1) (l1 * l2)) (bf_l (u1 * l2 - u2 * l1) (l1 * l2))) (by rw [br_u_n (by omega), br_u_s, if_pos h]) (by rw [br_u_s, if_pos h])
    rw [decide_eq_true h] at h9
    rw [decide_eq_true hh]; exact h9
  · have no : ¬ nI 2 ≤ nI ((decide (0 < (bs_V s1).toInt)).toNat + (decide (0 < (bs_V s2).toInt)).toNat) := by
      by_cases k1 : 0 < (bs_V s1).toInt
      · have k2 : ¬ 0 < (bs_V s2).toInt := fun z => h ⟨i1.mpr k1, i2.mpr z⟩
        rw [decide_eq_true k1, decide_eq_false k2]; decide +kernel
      · rw [decide_eq_false k1]
        by_cases k2 : 0 < (bs_V s2).toInt
        · rw [decide_eq_true k2]; decide +kernel
        · rw [decide_eq_false k2]; decide +kernel
    refine br_f no (rs_M_tells (by rw [z0]; omega) (by rw [z0]; omega) (rb_M_tellsMade_53 (rb_M_tellsMade_82 ?_)))
    have h9 := H J2 _ fJ (fr (bf_u (lN 0) (lN 0)) (bf_l (lN 0) (lN 0))) (by rw [br_u_n (by omega), br_u_s, if_neg h]; exact bf_uF (by rw [z0]; omega)) (by rw [br_u_s, if_neg h]; exact bf_lF (by rw [z0]; omega))
    rw [decide_eq_false h] at h9
    rw [decide_eq_false (by rw [z0]; omega)]; exact h9
end
