set_option maxRecDepth 100000
set_option maxHeartbeats 4000000
/-! what is carried -/
def bw_p (g : Nat → Int32) (F y : Nat) : Int64 := bf_u (bw_U g F y) (bw_V g F y) * (g (9 + y)).toInt64
def bw_q (g : Nat → Int32) (F y : Nat) : Int64 := bf_l (bw_U g F y) (bw_V g F y) * lN 100
def bw_st (g : Nat → Int32) (F : Nat) : Nat → Bool × Int64 × Int64
  | 0 => (false, lN 0, lN 1)
  | y + 1 => if 0 < (bw_V g F y).toInt then (true, bf_u ((bw_st g F y).2.1 * bw_q g F y + bw_p g F y * (bw_st g F y).2.2) ((bw_st g F y).2.2 * bw_q g F y), bf_l ((bw_st g F y).2.1 * bw_q g F y + bw_p g F y * (bw_st g F y).2.2) ((bw_st g F y).2.2 * bw_q g F y)) else bw_st g F y
theorem bw_st_T {g : Nat → Int32} {F y : Nat} (h : 0 < (bw_V g F y).toInt) : bw_st g F (y + 1) = (true, bf_u ((bw_st g F y).2.1 * bw_q g F y + bw_p g F y * (bw_st g F y).2.2) ((bw_st g F y).2.2 * bw_q g F y), bf_l ((bw_st g F y).2.1 * bw_q g F y + bw_p g F y * (bw_st g F y).2.2) ((bw_st g F y).2.2 * bw_q g F y)) := if_pos h
theorem bw_st_F {g : Nat → Int32} {F y : Nat} (h : ¬ 0 < (bw_V g F y).toInt) : bw_st g F (y + 1) = bw_st g F y := if_neg h
def bw_B (y : Nat) : Nat := 57600 ^ y
def bw_A : Nat → Nat
  | 0 => 0
  | y + 1 => bw_A y * 57600 + 126720000 * bw_B y
theorem bw_AB : ∀ y, y < 4 → bw_A y ≤ 1300000000000000000 ∧ bw_B y ≤ 200000000000000 ∧ 1 ≤ bw_B y := by decide +kernel
theorem bw_Bs (y : Nat) : bw_B (y + 1) = bw_B y * 57600 := Nat.pow_succ 57600 y
def bw_ok (y : Nat) (t : Bool × Int64 × Int64) : Prop := t = (false, lN 0, lN 1) ∨ (t.1 = true ∧ ∃ P R : Int64, 0 < R.toInt ∧ P.toInt.natAbs ≤ bw_A y ∧ R.toInt ≤ bw_B y ∧ t.2 = (bf_u P R, bf_l P R))
theorem bw_pq {f : Nat → Nat → Int32} {g : Nat → Int32} (hW : br_cel 9 0 f g) {y F : Nat} (hy : y < 3) (hF : F ≤ 24) (hV : 0 < (bw_V g F y).toInt) : (bw_p g F y).toInt.natAbs ≤ 126720000 ∧ 0 < (bw_q g F y).toInt ∧ (bw_q g F y).toInt ≤ 57600 := by
  obtain ⟨b1, b2, b3⟩ := bw_UV hW (y := y) hF
  have a := bf_u_abs (u := bw_U g F y) (l := bw_V g F y) (by omega)
  have b := bf_l_pos (u := bw_U g F y) hV
  have c := bb_lawgg hW (j := 3 + y) (by omega)
  rw [Nat.zero_add, show 6 + (3 + y) = 9 + y by omega] at c
  have m := bc_mulB (show (bf_u (bw_U g F y) (bw_V g F y)).toInt.natAbs ≤ 1280000 by omega) (show (g (9 + y)).toInt.natAbs ≤ 99 by omega)
  have h100 : (lN 100).toInt = 100 := pk_lT (by omega)
  unfold bw_p bw_q
  rw [br_lmulT (by rw [Int32.toInt_toInt64]; omega) (by rw [Int32.toInt_toInt64]; omega), br_lmulT (by rw [h100]; omega) (by rw [h100]; omega), Int32.toInt_toInt64, h100]
  exact ⟨m, by omega, by omega⟩
theorem bw_ok_b {y : Nat} (hy : y < 4) {t : Bool × Int64 × Int64} (h : bw_ok y t) : t.2.1.toInt.natAbs ≤ bw_A y ∧ 0 < t.2.2.toInt ∧ t.2.2.toInt ≤ bw_B y := by
  have z0 : (lN 0).toInt = 0 := pk_lT (by omega)
  have z1 : (lN 1).toInt = 1 := pk_lT (by omega)
  obtain ⟨k1, k2, k3⟩ := bw_AB y hy
  rcases h with rfl | ⟨h0, P, R, h1, h2, h3, h4⟩
  · simp only [z0, z1]; omega
  · have a := bf_u_abs (u := P) (l := R) (by omega)
    have b := bf_l_pos (u := P) h1
    rw [h4]; simp only; omega
/-- one way more: no number is too long -/
theorem bw_step {f : Nat → Nat → Int32} {g : Nat → Int32} (hW : br_cel 9 0 f g) {y F : Nat} (hy : y < 3) (hF : F ≤ 24) {u l : Int64} (hu : u.toInt.natAbs ≤ bw_A y) (hl : 0 < l.toInt) (hl2 : l.toInt ≤ bw_B y) (p q : Int64) (hp : p.toInt.natAbs ≤ 126720000) (hq : 0 < q.toInt) (hq2 : q.toInt ≤ 57600) :
    (u * q + p * l).toInt = u.toInt * q.toInt + p.toInt * l.toInt ∧ (l * q).toInt = l.toInt * q.toInt ∧ (u * q + p * l).toInt.natAbs ≤ bw_A (y + 1) ∧ 0 < (l * q).toInt ∧ (l * q).toInt ≤ bw_B (y + 1) := by
  obtain ⟨k1, k2, k3⟩ := bw_AB y (by omega)
  obtain ⟨k4, k5, k6⟩ := bw_AB (y + 1) (by omega)
  have m1 := bc_mulB hu (show q.toInt.natAbs ≤ 57600 by omega)
  have m2 := bc_mulB hp (show l.toInt.natAbs ≤ bw_B y by omega)
  have m3 := bc_mulB (show l.toInt.natAbs ≤ bw_B y by omega) (show q.toInt.natAbs ≤ 57600 by omega)
  have m4 := Int.mul_pos hl hq
  have eA : bw_A (y + 1) = bw_A y * 57600 + 126720000 * bw_B y := rfl
  have eB := bw_Bs y
  have e1 : (u * q).toInt = u.toInt * q.toInt := br_lmulT (by omega) (by omega)
  have e2 : (p * l).toInt = p.toInt * l.toInt := br_lmulT (by omega) (by omega)
  have e3 : (l * q).toInt = l.toInt * q.toInt := br_lmulT (by omega) (by omega)
  have e4 : (u * q + p * l).toInt = (u * q).toInt + (p * l).toInt := br_laddT (by omega) (by omega)
  rw [e4, e1, e2, e3]
  refine ⟨rfl, rfl, by omega, m4, by omega⟩
theorem bw_st_ok {f : Nat → Nat → Int32} {g : Nat → Int32} (hW : br_cel 9 0 f g) {F : Nat} (hF : F ≤ 24) : ∀ y, y ≤ 3 → bw_ok y (bw_st g F y)
  | 0, _ => Or.inl rfl
  | y + 1, h => by
    have ih := bw_st_ok hW hF y (by omega)
    have ib := bw_ok_b (by omega) ih
    by_cases hV : 0 < (bw_V g F y).toInt
    · obtain ⟨p1, p2, p3⟩ := bw_pq hW (by omega) hF hV
      obtain ⟨s1, s2, s3, s4, s5⟩ := bw_step hW (y := y) (by omega) hF ib.1 ib.2.1 ib.2.2 _ _ p1 p2 p3
      rw [bw_st_T hV]
      exact Or.inr ⟨rfl, _, _, s4, s3, s5, rfl⟩
    · rw [bw_st_F hV]
      rcases ih with e | ⟨h0, P, R, h1, h2, h3, h4⟩
      · exact Or.inl e
      · have eA : bw_A (y + 1) = bw_A y * 57600 + 126720000 * bw_B y := rfl
        have eB := bw_Bs y
        exact Or.inr ⟨h0, P, R, h1, by omega, by omega, h4⟩
section
variable {d n : Nat} {Q : br_Q} {I J : Nat → Nat → Int32} {L : Nat → Nat → Int64} {g : Nat → Int32} {F : Nat}
theorem br_cel_S {I J : Nat → Nat → Int32} (hW : br_cel 9 0 I (I 171)) (hJ : ∀ p, ¬ (64 ≤ p ∧ p ≤ 67) → J p = I p) : br_cel 9 0 J (J 171) :=
  br_cel_c hW (fun p j h1 h2 _ _ => by rw [hJ p (by omega)]) (fun k _ _ => by rw [hJ 171 (by omega)])
theorem br_lr2_S {I J : Nat → Nat → Int32} (h : br_lr2 25 0 I) (hJ : ∀ p, ¬ (64 ≤ p ∧ p ≤ 67) → J p = I p) : br_lr2 25 0 J := by
  refine ⟨fun k hk => ?_, ?_⟩
  · rw [hJ (25 + 1) (by omega), hJ 171 (by omega)]; exact h.1 k hk
  · rw [hJ 171 (by omega)]; exact h.2
theorem rs_W_carry {p : Nat} {z2 : Option Value} (hp : br_S0 n p = (0, 1)) (h74 : p = 72 ∨ p = 73) (hW : br_cel 9 0 I (I 171)) (hlr : br_lr2 25 0 I) (hF : F ≤ 24) (eF : I 171 1114 = nI F)
    (H : ∀ (J : Nat → Nat → Int32) (L' : Nat → Nat → Int64), (∀ q, ¬ (64 ≤ q ∧ q ≤ 67) → J q = I q) → (∀ q j, q ≠ p → q ≠ 74 → L' q j = L q j) → L' p 0 = (if (bw_st (I 171) F 3).1 = true then (bw_st (I 171) F 3).2.1 else lN 0) → L' p 1 = (if (bw_st (I 171) F 3).1 = true then (bw_st (I 171) F 3).2.2 else lN 0) → Q none (br_hp n J L')) :
    br_r (d + 3) 153 0 [some (.ref 8), some (.ref p), z2] [] (br_hp n I L) Q := by
  have z0 : (lN 0).toInt = 0 := pk_lT (by omega)
  have loop : ∀ k y (J : Nat → Nat → Int32) (L' : Nat → Nat → Int64), y + k = 3 → (∀ q, ¬ (64 ≤ q ∧ q ≤ 67) → J q = I q) → (∀ q j, q ≠ p → q ≠ 74 → L' q j = L q j) → L' p 0 = (if (bw_st (I 171) F y).1 = true then (bw_st (I 171) F y).2.1 else lN 0) → L' p 1 = (if (bw_st (I 171) F y).1 = true then (bw_st (I 171) F y).2.2 else lN 0) →
      br_r (d + 3) 153 6 [some (.ref 8), some (.ref p), some (.int (nI y))] [] (br_hp n J L') Q := by
    intro k
    induction k with
    | zero =>
      intro y J L' hy hJ hL h0 h1
      have : y = 3 := by omega
      subst this
      exact rb_A_carry_6 (br_t (nI_le (Nat.le_refl 3) (by omega)) (H J L' hJ hL h0 h1))
    | succ k ih =>
      intro y J L' hy hJ hL h0 h1
      have j171 : J 171 = I 171 := hJ 171 (by omega)
      have stT := bw_st_T (g := I 171) (F := F) (y := y)
      have stF := bw_st_F (g := I 171) (F := F) (y := y)
      have okq := bw_st_ok hW hF y (by omega)
      have ok := bw_ok_b (by omega) okq
      have bUV := bw_UV hW (y := y) hF
      refine rb_A_carry_6 (br_f (nI_ge (b := 3) (by omega) (by omega)) (rs_gatherF (F := F) (br_cel_S hW hJ) hF (by rw [j171]; exact eF) (fun J2 hJ2 hs => rb_A_carry_26 (rs_difference (p := 74) hs (bw_bl (br_cel_S hW hJ) hF) rfl (rb_A_carry_37 (rs_isNone rfl ?_))))))
      have hJ3 : ∀ q, ¬ (64 ≤ q ∧ q ≤ 67) → J2 q = I q := fun q hq => by rw [hJ2 q hq, hJ q hq]
      rw [j171]
      have eUV : bf_u (bs_U (bs_l (bw_P (I 171) y) (bw_E (I 171)) F)) (bs_V (bs_l (bw_P (I 171) y) (bw_E (I 171)) F)) = bf_u (bw_U (I 171) F y) (bw_V (I 171) F y) := rfl
      have eVV : bf_l (bs_U (bs_l (bw_P (I 171) y) (bw_E (I 171)) F)) (bs_V (bs_l (bw_P (I 171) y) (bw_E (I 171)) F)) = bf_l (bw_U (I 171) F y) (bw_V (I 171) F y) := rfl
      rw [br_u_s, eUV, eVV]
      refine rb_A_carry_44 ?_
      have hL2 : ∀ (U V : Int64) q j, q ≠ p → q ≠ 74 → br_u (br_u L' 74 0 U) 74 1 V q j = L q j := fun U V q j a b => by
        rw [br_u_n (by omega), br_u_n (by omega)]; exact hL q j a b
      have hLp : ∀ (U V : Int64) j, br_u (br_u L' 74 0 U) 74 1 V p j = L' p j := fun U V j => by
        rw [br_u_n (by omega), br_u_n (by omega)]
      by_cases hV : 0 < (bw_V (I 171) F y).toInt
      · have hlp := (bf_l_iff (u := bw_U (I 171) F y)).mpr hV
        refine br_f (fun z => z (bn_0.mpr hlp)) (rs_Law_growsBy (o := 0) (br_lwK (n := n)) (br_lr2_S hlr hJ3) (by omega) (rb_A_carry_69 ?_))
        obtain ⟨p1, p2, p3⟩ := bw_pq hW (by omega) hF hV
        obtain ⟨s1, s2, s3, s4, s5⟩ := bw_step hW (y := y) (by omega) hF ok.1 ok.2.1 ok.2.2 _ _ p1 p2 p3
        rw [br_u_n (by omega), br_u_s, br_u_s, hJ3 171 (by omega), show 0 + 9 + y = 9 + y by omega]
        refine rs_become (u := bw_p (I 171) F y) (l := bw_q (I 171) F y) rfl (by omega) (rb_A_carry_85 ⟨hp, rb_Fraction_add_0 ⟨hp, rs_isNone hp ?_⟩⟩)
        rw [br_u_n (by omega), br_u_n (by omega), hLp, h1]
        have nxt : ∀ (L4 : Nat → Nat → Int64), (∀ q j, q ≠ p → q ≠ 74 → L4 q j = L q j) → L4 p 0 = bf_u ((bw_st (I 171) F y).2.1 * bw_q (I 171) F y + bw_p (I 171) F y * (bw_st (I 171) F y).2.2) ((bw_st (I 171) F y).2.2 * bw_q (I 171) F y) → L4 p 1 = bf_l ((bw_st (I 171) F y).2.1 * bw_q (I 171) F y + bw_p (I 171) F y * (bw_st (I 171) F y).2.2) ((bw_st (I 171) F y).2.2 * bw_q (I 171) F y) → br_r (d + 3) 153 93 [some (.ref 8), some (.ref p), some (.int (nI y))] [] (br_hp n J2 L4) Q := fun L4 a b c => by
          refine rb_A_carry_93 ?_
          rw [nI_add]
          refine ih (y + 1) J2 L4 (by omega) hJ3 a ?_ ?_
          · rw [stT hV, if_pos rfl]; exact b
          · rw [stT hV, if_pos rfl]; exact c
        obtain ⟨kk, hkk, eP, eR⟩ := bf_parts (u := bw_p (I 171) F y) p2 (by omega)
        have bp2 := bf_u_abs (u := bw_p (I 171) F y) (l := bw_q (I 171) F y) (by omega)
        have bq2 := bf_l_pos (u := bw_p (I 171) F y) p2
        rcases okq with e | ⟨e, _⟩
        · rw [e, if_neg Bool.false_ne_true]
          refine rb_Fraction_add_4 ⟨fun z => absurd (bn_0.mp z) (by rw [z0]; omega), fun _ => ⟨hp, rb_Fraction_copy_0 ⟨rfl, hp, rfl, hp, rb_Fraction_add_12 (rb_Fraction_add_54 ?_)⟩⟩⟩
          have w1 : (lN 0) * bw_q (I 171) F y + bw_p (I 171) F y * lN 1 = bw_p (I 171) F y := by
            have a0 : lN 0 = 0 := rfl
            have a1 : lN 1 = 1 := rfl
            rw [a0, a1, Int64.zero_mul, Int64.mul_one, Int64.zero_add]
          have w2 : lN 1 * bw_q (I 171) F y = bw_q (I 171) F y := by
            have a1 : lN 1 = 1 := rfl
            rw [a1, Int64.one_mul]
          rw [e] at nxt
          simp only [w1, w2] at nxt
          refine nxt _ (fun q j a b => ?_) ?_ ?_
          · rw [br_u_n (by omega), br_u_n (by omega), br_u_n (by omega), br_u_n (by omega)]; exact hL2 _ _ q j a b
          · rw [br_u_n (by omega), br_u_s, br_u_n (by omega), br_u_s]
          · rw [br_u_s, br_u_n (by omega), br_u_s]
        · rw [e, if_pos rfl]
          rw [if_pos e] at h0 h1
          refine rb_Fraction_add_4 ⟨fun _ => ⟨rfl, rs_isNone rfl ?_⟩, fun z => absurd (bn_0.mpr ok.2.1) z⟩
          rw [br_u_s]
          refine rb_Fraction_add_19 (br_f (fun z => z (bn_0.mpr bq2.1)) ⟨hp, rfl, rfl, hp, hp, rfl, hp, ?_⟩)
          generalize hM : br_u (br_u (br_u (br_u L' 74 0 (bf_u (bw_U (I 171) F y) (bw_V (I 171) F y))) 74 1 (bf_l (bw_U (I 171) F y) (bw_V (I 171) F y))) 74 0 (bf_u (bw_p (I 171) F y) (bw_q (I 171) F y))) 74 1 (bf_l (bw_p (I 171) F y) (bw_q (I 171) F y)) = M
          have m0 : M 74 0 = bf_u (bw_p (I 171) F y) (bw_q (I 171) F y) := by rw [← hM, br_u_n (by omega), br_u_s]
          have m1 : M 74 1 = bf_l (bw_p (I 171) F y) (bw_q (I 171) F y) := by rw [← hM, br_u_s]
          have mp0 : M p 0 = (bw_st (I 171) F y).2.1 := by rw [← hM, br_u_n (by omega), br_u_n (by omega), hLp]; exact h0
          have mp1 : M p 1 = (bw_st (I 171) F y).2.2 := by rw [← hM, br_u_n (by omega), br_u_n (by omega), hLp]; exact h1
          have mf : ∀ q j, q ≠ p → q ≠ 74 → M q j = L q j := fun q j a b => by rw [← hM, br_u_n (by omega), br_u_n (by omega)]; exact hL2 _ _ q j a b
          rw [m0, m1, mp0, mp1]
          obtain ⟨t1, t2, t3, t4, t5⟩ := bw_step hW (y := y) (by omega) hF ok.1 ok.2.1 ok.2.2 (bf_u (bw_p (I 171) F y) (bw_q (I 171) F y)) (bf_l (bw_p (I 171) F y) (bw_q (I 171) F y)) (by omega) bq2.1 (by omega)
          have kA := (bw_AB (y + 1) (by omega)).1
          obtain ⟨c1, c2⟩ := bf_scale (u := (bw_st (I 171) F y).2.1 * bf_l (bw_p (I 171) F y) (bw_q (I 171) F y) + bf_u (bw_p (I 171) F y) (bw_q (I 171) F y) * (bw_st (I 171) F y).2.2) (l := (bw_st (I 171) F y).2.2 * bf_l (bw_p (I 171) F y) (bw_q (I 171) F y)) (u' := (bw_st (I 171) F y).2.1 * bw_q (I 171) F y + bw_p (I 171) F y * (bw_st (I 171) F y).2.2) (l' := (bw_st (I 171) F y).2.2 * bw_q (I 171) F y) (k := kk) hkk t4 (by omega) (by omega) (by rw [s1, t1, eP, eR]; exact sc4) (by rw [s2, t2, eR]; exact sc5)
          refine rs_become hp (by omega) (rb_Fraction_add_54 ?_)
          refine nxt _ (fun q j a b => ?_) ?_ ?_
          · rw [br_u_n (by omega), br_u_n (by omega)]; exact mf q j a b
          · rw [br_u_n (by omega), br_u_s, c1]
          · rw [br_u_s, c2]
      · have hlp : ¬ 0 < (bf_l (bw_U (I 171) F y) (bw_V (I 171) F y)).toInt := fun z => hV (bf_l_iff.mp z)
        refine br_t (fun z => hlp (bn_0.mp z)) (rb_A_carry_93 ?_)
        rw [nI_add]
        refine ih (y + 1) J2 _ (by omega) hJ3 (hL2 _ _) ?_ ?_
        · rw [hLp, stF hV]; exact h0
        · rw [hLp, stF hV]; exact h1
  refine rb_A_carry_0 ⟨hp, rs_clearF hp (rb_A_carry_4 (loop 3 0 I _ (by omega) (fun _ _ => rfl) (fun q j a b => by rw [br_u_n (by omega), br_u_n (by omega)]) ?_ ?_))⟩
  · rw [br_u_n (by omega), br_u_s]; rfl
  · rw [br_u_s]; rfl
theorem rs_M_carried {f : Nat → Nat → Int32} {z1 z2 z3 z4 z5 z6 z7 z8 z9 z10 : Option Value} (hg : J 171 = g) (hW : br_cel 9 0 f g) (hF : F ≤ 24) (eF : g 1114 = nI F)
    (H : ∀ L' : Nat → Nat → Int64, (∀ q j, q ≠ 169 → L' q j = L q j) → L' 169 19 = (if (bw_st g F 3).1 = true then (bw_st g F 3).2.1 else lN 0) → L' 169 20 = (if (bw_st g F 3).1 = true then (bw_st g F 3).2.2 else lN 0) → Q (some (.int (nI (bw_st g F 3).1.toNat))) (br_hp n J L')) :
    br_r (d + 4) 274 0 [some (.ref 169), z1, z2, z3, z4, z5, z6, z7, z8, z9, z10] [] (br_hp n J L) Q := by
  have z0 : (lN 0).toInt = 0 := pk_lT (by omega)
  have loop : ∀ k y (L' : Nat → Nat → Int64) (z7 z8 z9 z10 : Option Value), y + k = 3 → (∀ q j, q ≠ 169 → L' q j = L q j) →
      br_r (d + 4) 274 10 [some (.ref 169), some (.int (nI (bw_st g F y).1.toNat)), some (.long (bw_st g F y).2.1), none, some (.long (bw_st g F y).2.2), none, some (.int (nI y)), z7, z8, z9, z10] [] (br_hp n J L') Q := by
    intro k
    induction k with
    | zero =>
      intro y L' z7 z8 z9 z10 hy hL
      have : y = 3 := by omega
      subst this
      have okq := bw_st_ok hW hF 3 (by omega)
      have kA := (bw_AB 3 (by omega)).1
      refine rb_M_tellsCarried_10 (br_t (nI_le (Nat.le_refl 3) (by omega)) ?_)
      rcases okq with e | ⟨e, P, R, q1, q2, q3, q4⟩
      · rw [e] at H ⊢
        refine ⟨fun _ => rs_M_tells (by rw [z0]; omega) (by rw [z0]; omega) (rb_M_tellsCarried_115 ?_), fun z => absurd rfl z⟩
        have h := H (br_u (br_u L' 169 19 (bf_u (lN 0) (lN 0))) 169 20 (bf_l (lN 0) (lN 0))) (fun q j a => by rw [br_u_n (by omega), br_u_n (by omega)]; exact hL q j a) (by rw [br_u_n (by omega), br_u_s, if_neg Bool.false_ne_true]; exact bf_uF (by rw [z0]; omega)) (by rw [br_u_s, if_neg Bool.false_ne_true]; exact bf_lF (by rw [z0]; omega))
        rw [decide_eq_false (by rw [z0]; omega)]
        exact h
      · have id := bf_idem (u := P) q1 (by omega)
        have ab := bf_u_abs (u := P) (l := R) (by omega)
        have lp := bf_l_pos (u := P) q1
        rw [e, q4] at H ⊢
        refine ⟨fun z => absurd z br_10, fun _ => rs_M_tells (by show _ < (bf_u P R).toInt; omega) (by show 0 ≤ (bf_l P R).toInt; omega) (rb_M_tellsCarried_106 (rb_M_tellsCarried_115 ?_))⟩
        simp only [id.1, id.2, if_pos] at H ⊢
        have h := H (br_u (br_u L' 169 19 (bf_u P R)) 169 20 (bf_l P R)) (fun q j a => by rw [br_u_n (by omega), br_u_n (by omega)]; exact hL q j a) (by rw [br_u_n (by omega), br_u_s]) br_u_s
        rw [decide_eq_true lp.1]
        exact h
    | succ k ih =>
      intro y L' z7 z8 z9 z10 hy hL
      have h1 := fun L' z7 z8 z9 z10 => ih (y + 1) L' z7 z8 z9 z10 (by omega)
      have ok := bw_ok_b (by omega) (bw_st_ok hW hF y (by omega))
      refine rb_M_tellsCarried_10 (br_f (nI_ge (b := 3) (by omega) (by omega)) (rs_M_tellsHair (y := y) hg hW hF eF (rb_M_tellsCarried_22 ?_)))
      by_cases hV : 0 < (bw_V g F y).toInt
      · obtain ⟨p1, p2, p3⟩ := bw_pq hW (by omega) hF hV
        obtain ⟨s1, s2, s3, s4, s5⟩ := bw_step hW (y := y) (by omega) hF ok.1 ok.2.1 ok.2.2 _ _ p1 p2 p3
        have kA := (bw_AB (y + 1) (by omega)).1
        rw [decide_eq_true hV, br_u_s, br_u_n (by omega), br_u_s, nI_add, nI_clamp (by omega), hg]
        refine br_t br_10 ⟨vp_in_nI (by omega) (by omega), ?_⟩
        refine rs_M_tells (u := (bw_st g F y).2.1 * bw_q g F y + bw_p g F y * (bw_st g F y).2.2) (l := (bw_st g F y).2.2 * bw_q g F y) (by omega) (by omega) (rb_M_tellsCarried_77 ?_)
        rw [br_u_s, br_u_n (by omega), br_u_s, nI_add]
        rw [bw_st_T hV] at h1
        exact h1 _ _ _ _ _ (fun q j a => by rw [br_u_n (by omega), br_u_n (by omega), br_u_n (by omega), br_u_n (by omega)]; exact hL q j a)
      · rw [decide_eq_false hV]
        rw [bw_st_F hV] at h1
        refine br_f (fun z => z rfl) ?_
        rw [nI_add]
        exact h1 _ _ _ _ _ (fun q j a => by rw [br_u_n (by omega), br_u_n (by omega)]; exact hL q j a)
  exact rb_M_tellsCarried_0 (loop 3 0 L _ _ _ _ (by omega) (fun _ _ _ => rfl))
end
