set_option maxRecDepth 100000
set_option maxHeartbeats 4000000
/-! bounds of what a law foretells -/
theorem nb_div {x y : Int32} {A : Nat} (h : x.toInt.natAbs ≤ A) (hA : A < 2147483648) : (x / y).toInt.natAbs ≤ A := by
  rw [Int32.toInt_div]
  have h1 : (x.toInt.tdiv y.toInt).natAbs ≤ A := by
    rw [Int.natAbs_tdiv]; exact Nat.le_trans (Nat.div_le_self _ _) h
  rw [Int.bmod_eq_of_le (by omega) (by omega)]
  exact h1
theorem nb_mul {x y : Int32} {A C : Nat} (h : x.toInt.natAbs ≤ A) (h2 : y.toInt.natAbs ≤ C) (hA : A * C < 2147483648) : (x * y).toInt.natAbs ≤ A * C := by
  have h1 : (x.toInt * y.toInt).natAbs ≤ A * C := by
    rw [Int.natAbs_mul]; exact Nat.mul_le_mul h h2
  rw [Int32.toInt_mul, Int.bmod_eq_of_le (by omega) (by omega)]
  exact h1
theorem nb_add {x y : Int32} {A C : Nat} (h : x.toInt.natAbs ≤ A) (h2 : y.toInt.natAbs ≤ C) (hA : A + C < 2147483648) : (x + y).toInt.natAbs ≤ A + C := by
  rw [Int32.toInt_add, Int.bmod_eq_of_le (by omega) (by omega)]
  omega
theorem nb_sub {x y : Int32} {A C : Nat} (h : x.toInt.natAbs ≤ A) (h2 : y.toInt.natAbs ≤ C) (hA : A + C < 2147483648) : (x - y).toInt = x.toInt - y.toInt := by
  rw [Int32.toInt_sub, Int.bmod_eq_of_le (by omega) (by omega)]
theorem nb_neg {x : Int32} {A : Nat} (h : x.toInt.natAbs ≤ A) (hA : A < 2147483648) : (-x).toInt = -x.toInt := by
  rw [Int32.toInt_neg, Int.bmod_eq_of_le (by omega) (by omega)]
/-- a law's numbers are small -/
def br_lb (g : Nat → Int32) (o : Nat) : Prop := (∀ k, k < 6 → (g (o + k)).toInt.natAbs ≤ 99) ∧ (∀ k, k < 6 → (g (o + 6 + k)).toInt.natAbs ≤ 99) ∧ (0 ≤ (g (o + 12)).toInt ∧ (g (o + 12)).toInt ≤ 100) ∧ (g (o + 13)).toInt.natAbs ≤ 50 ∧ (g (o + 14)).toInt.natAbs ≤ 50 ∧ 0 ≤ (g (o + 16)).toInt ∧ (g (o + 16)).toInt ≤ 20
theorem bm_full_b {g : Nat → Int32} {o r w : Nat} (hb : br_lb g o) (hw : w ≤ 5) (h6 : 0 ≤ (g (630 + r)).toInt ∧ (g (630 + r)).toInt ≤ 20) : (bm_full g o r w).toInt.natAbs ≤ 9900 := by
  obtain ⟨b1, b2, b3, b4, b5, b6, b7⟩ := hb
  have e1 := nb_mul (x := g (o + 12)) (y := g (630 + r)) (A := 100) (C := 20) (by omega) (by omega) (by omega)
  have e1' : 0 ≤ (g (o + 12) * g (630 + r)).toInt := by
    have h0 : 0 ≤ (g (o + 12)).toInt * (g (630 + r)).toInt := Int.mul_nonneg b3.1 h6.1
    have h1 : (g (o + 12)).toInt * (g (630 + r)).toInt ≤ 100 * 20 := Int.mul_le_mul b3.2 h6.2 h6.1 (by omega)
    rw [br_mulT (by omega) (by omega)]; exact h0
  have h100 : (nI 100).toInt = 100 := nI_toInt (by omega)
  have e2 := nb_sub (x := nI 100) (y := g (o + 12) * g (630 + r)) (A := 100) (C := 2000) (by rw [h100]; decide) (by omega) (by omega)
  have e3 : (bm_pos (nI 100 - g (o + 12) * g (630 + r))).toInt.natAbs ≤ 100 := by
    have z0 : (nI 0).toInt = 0 := nI_toInt (by omega)
    rw [← bm_pos_max, br_maxT, z0, e2, h100]; omega
  have e4 := nb_mul (b1 w (by omega)) e3 (by omega)
  exact nb_div e4 (by omega)
theorem bm_hold_b {g : Nat → Int32} {o r w : Nat} {y : Int32} (hb : br_lb g o) (hw : w ≤ 5) (h6 : 0 ≤ (g (630 + r)).toInt ∧ (g (630 + r)).toInt ≤ 20) : (bm_hold g o r w y).toInt.natAbs ≤ 9900 := by
  unfold bm_hold
  split
  · exact nb_div (bm_full_b hb hw h6) (by omega)
  · exact bm_full_b hb hw h6
theorem bm_grow1_b {g : Nat → Int32} {o w : Nat} {x : Int32} (hb : br_lb g o) (hw : w < 3) (hx : x.toInt.natAbs ≤ 9900) : (bm_grow1 g o x w).toInt.natAbs ≤ 97029900 := by
  obtain ⟨b1, b2, b3⟩ := hb
  have e1 := nb_div (y := nI 10) (nb_mul hx (b2 w (by omega)) (by omega)) (by omega)
  have b9 := b2 (3 + w) (by omega)
  rw [show o + 6 + (3 + w) = o + 9 + w by omega] at b9
  exact nb_div (nb_mul e1 b9 (by omega)) (by omega)
theorem bm_grows_b {g : Nat → Int32} {o r w : Nat} {y : Int32} (hb : br_lb g o) (hw : w ≤ 5) (h6 : 0 ≤ (g (630 + r)).toInt ∧ (g (630 + r)).toInt ≤ 20) : (bm_grows g o r w y).toInt.natAbs ≤ 291089750 := by
  have hh := bm_hold_b (y := y) hb hw h6
  have q0 := bm_grow1_b (w := 0) hb (by omega) hh
  have q1 := bm_grow1_b (w := 1) hb (by omega) hh
  have q2 := bm_grow1_b (w := 2) hb (by omega) hh
  have e0 : (if w = 5 then g (o + 14) else nI 0).toInt.natAbs ≤ 50 := by
    split
    · exact hb.2.2.2.2.1
    · exact by decide +kernel
  exact nb_add (A := 194059850) (nb_add (A := 97029950) (nb_add e0 q0 (by omega)) q1 (by omega)) q2 (by omega)
/-- what a law foretells over k years -/
def bh_s (g : Nat → Int32) (o r w ya : Nat) : Nat → Int32
  | 0 => nI 0
  | k + 1 => bh_s g o r w ya k + (g (o + 13) + bm_grows g o r w (nI (ya + k)))
theorem bh_s_b {g : Nat → Int32} {o r w ya : Nat} (hb : br_lb g o) (hw : w ≤ 5) (h6 : 0 ≤ (g (630 + r)).toInt ∧ (g (630 + r)).toInt ≤ 20) : ∀ k, k ≤ 6 → (bh_s g o r w ya k).toInt.natAbs ≤ k * 291089800
  | 0, _ => by
    show (nI 0).toInt.natAbs ≤ _
    rw [nI_toInt (by omega)]; decide
  | k + 1, h => by
    have ih := bh_s_b (ya := ya) hb hw h6 k (by omega)
    have e1 := nb_add hb.2.2.2.1 (bm_grows_b (y := nI (ya + k)) hb hw h6) (by omega)
    have e2 := nb_add ih e1 (by omega)
    show (bh_s g o r w ya k + (g (o + 13) + bm_grows g o r w (nI (ya + k)))).toInt.natAbs ≤ _
    omega
def bf_D (g : Nat → Int32) (o a b ya yb c : Nat) : Int := (g (867 + (40 * b + c)) - g (867 + (40 * a + c))).toInt - (bh_s g o (g (667 + c)).toNatClampNeg (g (787 + c)).toNatClampNeg ya (yb - ya)).toInt
def bf_ok (g : Nat → Int32) (o a b ya yb c : Nat) : Bool := decide ((bf_D g o a b ya yb c).natAbs ≤ 2 * (g (o + 16)).toNatClampNeg)
section
variable {d n : Nat} {Q : br_Q} {I J : Nat → Nat → Int32} {L : Nat → Nat → Int64}
theorem br_lrKept (hW : br_W 9 0 I) {i : Nat} (hi : i < 4) : br_lr2 (9 + (35 + 2 * i)) (20 + 20 * i) I ∧ br_lb (I 171) (20 + 20 * i) := by
  obtain ⟨N, R, hN, hR, eN, eR, a3, a4, a5⟩ := hW.2.1
  have z := a5 (i + 1) (by omega)
  rw [Nat.zero_add, show 20 * (i + 1) = 20 + 20 * i by omega] at z
  have zz : (nI 0).toInt = 0 := nI_toInt (by omega)
  rcases (by omega : i = 0 ∨ i = 1 ∨ i = 2 ∨ i = 3) with rfl | rfl | rfl | rfl
  · refine ⟨⟨fun k hk => ?_, z⟩, fun k hk => ?_, fun k hk => ?_, ?_, ?_, ?_, ?_⟩
    · rcases (by omega : k < 5 ∨ (5 ≤ k ∧ k < 11) ∨ k = 11 ∨ (12 ≤ k ∧ k < 15) ∨ k = 15) with h | ⟨h, h2⟩ | h | ⟨h, h2⟩ | h
      · have e := bi_k0mv hW.1 h
        rw [show 21 + k = 20 + (1 + k) by omega] at e; exact e
      · have e := bi_k0gg hW.1 (j := k - 5) (by omega)
        rw [show 5 + (k - 5) = k by omega, show 26 + (k - 5) = 20 + (1 + k) by omega] at e; exact e
      · subst h; exact bi_k0kn hW.1
      · have e := bi_k0fifty hW.1 (j := k - 12) (by omega)
        rw [show 12 + (k - 12) = k by omega, show 33 + (k - 12) = 20 + (1 + k) by omega] at e; exact e
      · subst h; exact bi_k0noise hW.1
    · rcases (by omega : k = 0 ∨ 0 < k) with h | h
      · subst h; rw [Nat.add_zero, z, zz]; decide
      · have e := bb_k0mv hW.1 (j := k - 1) (by omega)
        rw [show 0 + (21 + (k - 1)) = 20 + 20 * 0 + k by omega] at e; omega
    · have e := bb_k0gg hW.1 (j := k) (by omega)
      rw [show 0 + (26 + k) = 20 + 20 * 0 + 6 + k by omega] at e; omega
    · have e := bb_k0kn hW.1
      rw [Nat.zero_add] at e; exact e
    · have e := bb_k0fifty hW.1 (j := 0) (by omega)
      rw [show 0 + (33 + 0) = 20 + 20 * 0 + 13 by omega] at e; omega
    · have e := bb_k0fifty hW.1 (j := 1) (by omega)
      rw [show 0 + (33 + 1) = 20 + 20 * 0 + 14 by omega] at e; omega
    · have e := bb_k0noise hW.1
      rw [Nat.zero_add] at e; exact e
  · refine ⟨⟨fun k hk => ?_, z⟩, fun k hk => ?_, fun k hk => ?_, ?_, ?_, ?_, ?_⟩
    · rcases (by omega : k < 5 ∨ (5 ≤ k ∧ k < 11) ∨ k = 11 ∨ (12 ≤ k ∧ k < 15) ∨ k = 15) with h | ⟨h, h2⟩ | h | ⟨h, h2⟩ | h
      · have e := bi_k1mv hW.1 h
        rw [show 41 + k = 40 + (1 + k) by omega] at e; exact e
      · have e := bi_k1gg hW.1 (j := k - 5) (by omega)
        rw [show 5 + (k - 5) = k by omega, show 46 + (k - 5) = 40 + (1 + k) by omega] at e; exact e
      · subst h; exact bi_k1kn hW.1
      · have e := bi_k1fifty hW.1 (j := k - 12) (by omega)
        rw [show 12 + (k - 12) = k by omega, show 53 + (k - 12) = 40 + (1 + k) by omega] at e; exact e
      · subst h; exact bi_k1noise hW.1
    · rcases (by omega : k = 0 ∨ 0 < k) with h | h
      · subst h; rw [Nat.add_zero, z, zz]; decide
      · have e := bb_k1mv hW.1 (j := k - 1) (by omega)
        rw [show 0 + (41 + (k - 1)) = 20 + 20 * 1 + k by omega] at e; omega
    · have e := bb_k1gg hW.1 (j := k) (by omega)
      rw [show 0 + (46 + k) = 20 + 20 * 1 + 6 + k by omega] at e; omega
    · have e := bb_k1kn hW.1
      rw [Nat.zero_add] at e; exact e
    · have e := bb_k1fifty hW.1 (j := 0) (by omega)
      rw [show 0 + (53 + 0) = 20 + 20 * 1 + 13 by omega] at e; omega
    · have e := bb_k1fifty hW.1 (j := 1) (by omega)
      rw [show 0 + (53 + 1) = 20 + 20 * 1 + 14 by omega] at e; omega
    · have e := bb_k1noise hW.1
      rw [Nat.zero_add] at e; exact e
  · refine ⟨⟨fun k hk => ?_, z⟩, fun k hk => ?_, fun k hk => ?_, ?_, ?_, ?_, ?_⟩
    · rcases (by omega : k < 5 ∨ (5 ≤ k ∧ k < 11) ∨ k = 11 ∨ (12 ≤ k ∧ k < 15) ∨ k = 15) with h | ⟨h, h2⟩ | h | ⟨h, h2⟩ | h
      · have e := bi_k2mv hW.1 h
        rw [show 61 + k = 60 + (1 + k) by omega] at e; exact e
      · have e := bi_k2gg hW.1 (j := k - 5) (by omega)
        rw [show 5 + (k - 5) = k by omega, show 66 + (k - 5) = 60 + (1 + k) by omega] at e; exact e
      · subst h; exact bi_k2kn hW.1
      · have e := bi_k2fifty hW.1 (j := k - 12) (by omega)
        rw [show 12 + (k - 12) = k by omega, show 73 + (k - 12) = 60 + (1 + k) by omega] at e; exact e
      · subst h; exact bi_k2noise hW.1
    · rcases (by omega : k = 0 ∨ 0 < k) with h | h
      · subst h; rw [Nat.add_zero, z, zz]; decide
      · have e := bb_k2mv hW.1 (j := k - 1) (by omega)
        rw [show 0 + (61 + (k - 1)) = 20 + 20 * 2 + k by omega] at e; omega
    · have e := bb_k2gg hW.1 (j := k) (by omega)
      rw [show 0 + (66 + k) = 20 + 20 * 2 + 6 + k by omega] at e; omega
    · have e := bb_k2kn hW.1
      rw [Nat.zero_add] at e; exact e
    · have e := bb_k2fifty hW.1 (j := 0) (by omega)
      rw [show 0 + (73 + 0) = 20 + 20 * 2 + 13 by omega] at e; omega
    · have e := bb_k2fifty hW.1 (j := 1) (by omega)
      rw [show 0 + (73 + 1) = 20 + 20 * 2 + 14 by omega] at e; omega
    · have e := bb_k2noise hW.1
      rw [Nat.zero_add] at e; exact e
  · refine ⟨⟨fun k hk => ?_, z⟩, fun k hk => ?_, fun k hk => ?_, ?_, ?_, ?_, ?_⟩
    · rcases (by omega : k < 5 ∨ (5 ≤ k ∧ k < 11) ∨ k = 11 ∨ (12 ≤ k ∧ k < 15) ∨ k = 15) with h | ⟨h, h2⟩ | h | ⟨h, h2⟩ | h
      · have e := bi_k3mv hW.1 h
        rw [show 81 + k = 80 + (1 + k) by omega] at e; exact e
      · have e := bi_k3gg hW.1 (j := k - 5) (by omega)
        rw [show 5 + (k - 5) = k by omega, show 86 + (k - 5) = 80 + (1 + k) by omega] at e; exact e
      · subst h; exact bi_k3kn hW.1
      · have e := bi_k3fifty hW.1 (j := k - 12) (by omega)
        rw [show 12 + (k - 12) = k by omega, show 93 + (k - 12) = 80 + (1 + k) by omega] at e; exact e
      · subst h; exact bi_k3noise hW.1
    · rcases (by omega : k = 0 ∨ 0 < k) with h | h
      · subst h; rw [Nat.add_zero, z, zz]; decide
      · have e := bb_k3mv hW.1 (j := k - 1) (by omega)
        rw [show 0 + (81 + (k - 1)) = 20 + 20 * 3 + k by omega] at e; omega
    · have e := bb_k3gg hW.1 (j := k) (by omega)
      rw [show 0 + (86 + k) = 20 + 20 * 3 + 6 + k by omega] at e; omega
    · have e := bb_k3kn hW.1
      rw [Nat.zero_add] at e; exact e
    · have e := bb_k3fifty hW.1 (j := 0) (by omega)
      rw [show 0 + (93 + 0) = 20 + 20 * 3 + 13 by omega] at e; omega
    · have e := bb_k3fifty hW.1 (j := 1) (by omega)
      rw [show 0 + (93 + 1) = 20 + 20 * 3 + 14 by omega] at e; omega
    · have e := bb_k3noise hW.1
      rw [Nat.zero_add] at e; exact e
theorem rs_W_foretold {p o c r w a b ya yb : Nat} {z5 z6 : Option Value} (hp : br_lw n p) (hl : br_lr2 p o I) (hk : br_kid c r w I) (ha : a < 6) (hb : b < 6) (ea : I 24 a = nI ya) (eb : I 24 b = nI yb) (hya : ya ≤ 6) (hyb : yb ≤ 6) (H : Q (some (.int (bh_s (I 171) o r w ya (yb - ya)))) (br_hp n I L)) :
    br_r (d + 4) 170 0 [some (.ref 9), some (.ref p), some (.int (nI c)), some (.int (nI a)), some (.int (nI b)), z5, z6] [] (br_hp n I L) Q := by
  have loop : ∀ k j (z3 : Option Value), j + k = yb - ya → br_r (d + 4) 170 11 [some (.ref 9), some (.ref p), some (.int (nI c)), z3, some (.int (nI b)), some (.int (bh_s (I 171) o r w ya j)), some (.int (nI (ya + j)))] [] (br_hp n I L) Q := by
    intro k
    induction k with
    | zero =>
      intro j z3 hj
      have : j = yb - ya := by omega
      subst this
      refine rb_World_foretold_11 ⟨vp_in_nI hb (by omega), ?_⟩
      rw [nI_clamp (by omega), eb]
      exact br_t (nI_le (by omega) (by omega)) H
    | succ k ih =>
      intro j z3 hj
      have h1 := fun z3 => ih (j + 1) z3 (by omega)
      refine rb_World_foretold_11 ⟨vp_in_nI hb (by omega), ?_⟩
      rw [nI_clamp (by omega), eb, hp.1, hp.2.1, hp.2.2.1]
      refine br_f (nI_ge (by omega) (by omega)) ⟨rfl, rfl, vp_in_nI (by omega) (by omega), rs_W_growthOf hp hl hk (rb_World_foretold_40 ?_)⟩
      rw [nI_add, hl.1 12 (by omega)]
      exact h1 _
  refine rb_World_foretold_0 ⟨vp_in_nI ha (by omega), ?_⟩
  rw [nI_clamp (by omega), ea]
  exact loop (yb - ya) 0 _ (by omega)
theorem rs_abs {x : Int32} {A : Nat} (h : x.toInt.natAbs ≤ A) (hA : A < 2147483648) (H : Q (some (.int (nI x.toInt.natAbs))) (br_hp n I L)) : br_r d 171 0 [some (.int x)] [] (br_hp n I L) Q := by
  have z0 : (nI 0).toInt = 0 := nI_toInt (by omega)
  have key : ∀ y : Int32, y.toInt = x.toInt.natAbs → Q (some (.int y)) (br_hp n I L) := fun y hy => by
    have e : y = nI x.toInt.natAbs := Int32.toInt_inj.mp (by rw [hy, nI_toInt (by omega)])
    rw [e]; exact H
  refine rb_Math_abs_I_0 ⟨fun h1 => key _ ?_, fun h1 => key _ ?_⟩
  · rw [br_leT, z0] at h1; omega
  · rw [br_leT, z0] at h1
    rw [nb_neg h hA]; omega
/-- what both need to know of a child -/
theorem bf_kid (hW : br_W 9 0 I) {N c i a b ya yb : Nat} (hN : N ≤ 40) (eN : I 171 666 = nI N) (hc : c < N) (hi : i < 4) (ha : a < 6) (hb : b < 6) (hyb : yb ≤ 6) : ∃ r w S nz, r < 18 ∧ w ≤ 5 ∧ I 171 (667 + c) = nI r ∧ I 171 (787 + c) = nI w ∧ br_kid c r w I ∧ bh_s (I 171) (20 + 20 * i) r w ya (yb - ya) = S ∧ S.toInt.natAbs ≤ 1746538800 ∧ I 171 (20 + 20 * i + 16) = nI nz ∧ nz ≤ 20 ∧
    bf_ok (I 171) (20 + 20 * i) a b ya yb c = decide (((I 171 (867 + (40 * b + c)) - I 171 (867 + (40 * a + c))).toInt - S.toInt).natAbs ≤ 2 * nz) ∧ (I 171 (867 + (40 * b + c)) - I 171 (867 + (40 * a + c))).toInt.natAbs ≤ 201 := by
  obtain ⟨r, w, hr, hw, er, ew, kid⟩ := br_kidW hW hN eN hc
  obtain ⟨hl, hlb⟩ := br_lrKept hW hi
  have h6 := bb_weeks hW.1 (j := r) hr
  rw [Nat.zero_add] at h6
  obtain ⟨nz, enz, hnz⟩ := br_nN hlb.2.2.2.2.2.1
  have hnz2 := hlb.2.2.2.2.2.2
  have hS := bh_s_b (ya := ya) hlb hw h6 (yb - ya) (by omega)
  have hG := br_grewb hW ha hb (c := c) (by omega)
  refine ⟨r, w, _, nz, hr, hw, er, ew, kid, rfl, Nat.le_trans hS ?_, enz, by omega, ?_, by omega⟩
  · have : (yb - ya) * 291089800 ≤ 6 * 291089800 := Nat.mul_le_mul_right _ (by omega)
    omega
  · unfold bf_ok bf_D
    rw [er, ew, enz, nI_clamp (by omega), nI_clamp (by omega), nI_clamp (by omega)]
theorem rs_W_fitting {i a b ya yb N : Nat} {z4 z5 z6 : Option Value} (hW : br_W 9 0 I) (hN : N ≤ 40) (eN : I 171 666 = nI N) (hi : i < 4) (ha : a < 6) (hb : b < 6) (ea : I 24 a = nI ya) (eb : I 24 b = nI yb) (hya : ya ≤ 6) (hyb : yb ≤ 6)
    (H : Q (some (.int (nI (bm_cnt (fun c => bm_rd0 (I 171) a b c && bf_ok (I 171) (20 + 20 * i) a b ya yb c) N)))) (br_hp n I L)) :
    br_r (d + 5) 169 0 [some (.ref 9), some (.ref (9 + (35 + 2 * i))), some (.int (nI a)), some (.int (nI b)), z4, z5, z6] [] (br_hp n I L) Q := by
  have cN : I 9 8 = nI N := (bi_children hW.1).trans eN
  obtain ⟨hp, _⟩ := (br_lwW (n := n) (w := 9) (Or.inl rfl)).2 i hi
  obtain ⟨hl, hlb⟩ := br_lrKept hW hi
  have loop : ∀ k c (z6 : Option Value), c + k = N → br_r (d + 5) 169 6 [some (.ref 9), some (.ref (9 + (35 + 2 * i))), some (.int (nI a)), some (.int (nI b)), some (.int (nI (bm_cnt (fun c => bm_rd0 (I 171) a b c && bf_ok (I 171) (20 + 20 * i) a b ya yb c) c))), some (.int (nI c)), z6] [] (br_hp n I L) Q := by
    intro k
    induction k with
    | zero =>
      intro c z6 hc
      have : c = N := by omega
      subst this
      exact rb_World_countFitting_6 (br_t (by rw [cN]; exact nI_le (Nat.le_refl _) (by omega)) H)
    | succ k ih =>
      intro c z6 hc
      have h1 := fun z6 => ih (c + 1) z6 (by omega)
      obtain ⟨r, w, S, nz, hr, hw, er, ew, kid, eS, bS, enz, hnz, eok, bG⟩ := bf_kid (ya := ya) (yb := yb) (a := a) (b := b) hW hN eN (c := c) (by omega) hi ha hb hyb
      refine rb_World_countFitting_6 (br_f (by rw [cN]; exact nI_ge (by omega) (by omega)) (rs_W_isRead hW hN eN (by omega) ha hb (rb_World_countFitting_23 ⟨fun h => ?_, fun h => ?_⟩)))
      · rw [nI_add]
        rw [bm_cnt_F (by rw [bd_b0 h]; rfl)] at h1
        exact h1 _
      · have hrd := bd_b1 h
        rw [nI_clamp (by omega), nI_clamp (by omega), nI_clamp (by omega), br_R17 ha, br_R17 hb, br_S17 ha, br_S17 hb, br_ptW hW ha (by omega), br_ptW hW hb (by omega)]
        refine ⟨vp_in_nI hb (by omega), rfl, vp_in_nI (by omega) (by omega), vp_in_nI ha (by omega), rfl, vp_in_nI (by omega) (by omega), rs_W_foretold hp hl kid ha hb ea eb hya hyb (rb_World_countFitting_54 ?_)⟩
        rw [eS]
        have eD := nb_sub bG bS (by omega)
        have bD : (I 171 (867 + (40 * b + c)) - I 171 (867 + (40 * a + c)) - S).toInt.natAbs ≤ 1746539001 := by rw [eD]; omega
        refine rs_abs bD (by omega) (rb_World_countFitting_62 ⟨hp.1, rb_Law_noise_0 ?_⟩)
        rw [hp.1, hp.2.1, hp.2.2.1, hl.1 15 (by omega), show 20 + 20 * i + (1 + 15) = 20 + 20 * i + 16 by omega, enz]
        refine ⟨rfl, rfl, vp_in_nI (by omega) (by omega), rb_World_countFitting_67 ?_⟩
        rw [pk_mul, nI_ltI (by omega) (by omega), nI_add, nI_add]
        refine ⟨fun h5 => ?_, fun h5 => ?_⟩
        · rw [bm_cnt_F (by rw [eok, decide_eq_false (by rw [eD] at h5; omega), Bool.and_false])] at h1
          exact h1 _
        · rw [bm_cnt_T (by rw [eok, hrd, decide_eq_true (by rw [eD] at h5; omega)]; rfl)] at h1
          exact h1 _
  exact rb_World_countFitting_0 (loop N 0 _ (by omega))
theorem rs_M_fitsOf {i a b ya yb N : Nat} {P : Nat → Bool} {z4 z5 z6 z7 z8 : Option Value} (hW : br_W 9 0 I) (rdm : br_rdm (I 171) N P J) (hi : i < 4) (ha : a < 6) (hb : b < 6) (ea : I 171 (1107 + a) = nI ya) (eb : I 171 (1107 + b) = nI yb) (hya : ya ≤ 6) (hyb : yb ≤ 6)
    (H : Q (some (.int (nI (bm_cnt (fun c => P c && bf_ok (I 171) (20 + 20 * i) a b ya yb c) N)))) (br_hp n J L)) :
    br_r (d + 5) 285 0 [some (.ref 169), some (.int (nI i)), some (.int (nI a)), some (.int (nI b)), z4, z5, z6, z7, z8] [] (br_hp n J L) Q := by
  obtain ⟨jg, eN, hN, hP⟩ := rdm
  obtain ⟨hl, hlb⟩ := br_lrKept hW hi
  have loop : ∀ k c (z1 z7 z8 : Option Value), c + k = N → br_r (d + 5) 285 15 [some (.ref 169), z1, some (.int (nI a)), some (.int (nI b)), some (.int (nI (20 + 20 * i))), some (.int (nI (bm_cnt (fun c => P c && bf_ok (I 171) (20 + 20 * i) a b ya yb c) c))), some (.int (nI c)), z7, z8] [] (br_hp n J L) Q := by
    intro k
    induction k with
    | zero =>
      intro c z1 z7 z8 hc
      have : c = N := by omega
      subst this
      exact rb_M_fitsOf_15 (br_t (by rw [jg, eN]; exact nI_le (Nat.le_refl _) (by omega)) H)
    | succ k ih =>
      intro c z1 z7 z8 hc
      have h1 := fun z1 z7 z8 => ih (c + 1) z1 z7 z8 (by omega)
      obtain ⟨r, w, S, nz, hr, hw, er, ew, kid, eS, bS, enz, hnz, eok, bG⟩ := bf_kid (ya := ya) (yb := yb) (a := a) (b := b) hW hN eN (c := c) (by omega) hi ha hb hyb
      refine rb_M_fitsOf_15 (br_f (by rw [jg, eN]; exact nI_ge (by omega) (by omega)) ?_)
      rw [nI_clamp (by omega), hP c (by omega), decide_eq_true (show c < N by omega), Bool.true_and]
      refine ⟨vp_in_nI (by omega) (by omega), fun h => ⟨?_, ?_⟩, fun h => ?_⟩
      · rw [nI_add]; exact vp_in_nI (by omega) (by omega)
      · have hPc := bd_b1 h
        rw [nI_add, nI_clamp (by omega), jg, ea]
        have fin : ∀ (z1 z7 z8 : Option Value), br_r (d + 5) 285 115 [some (.ref 169), z1, some (.int (nI a)), some (.int (nI b)), some (.int (nI (20 + 20 * i))), z7, some (.int (nI c)), some (.int S), z8] [.int (I 171 (867 + (40 * b + c)) - I 171 (867 + (40 * a + c))), .int S, .int (nI (bm_cnt (fun c => P c && bf_ok (I 171) (20 + 20 * i) a b ya yb c) c))] (br_hp n J L) Q := by
          intro z1 z7 z8
          refine rb_M_fitsOf_115 ?_
          rw [nI_add, nI_clamp (by omega), jg, enz, pk_mul]
          have e1 := nb_sub bS bG (by omega)
          have t2 : (nI 2).toInt = 2 := nI_toInt (by omega)
          have m2 : (-(nI 2)).toInt = -2 := br_negT (by omega)
          have tn : (nI nz).toInt = nz := nI_toInt (by omega)
          have e2 : (-(nI 2) * nI nz).toInt = -(2 * (nz : Int)) := by rw [br_mulT (by rw [m2, tn]; omega) (by rw [m2, tn]; omega), m2, tn]; omega
          have t3 : (nI (2 * nz)).toInt = ((2 * nz : Nat) : Int) := nI_toInt (by omega)
          refine ⟨vp_in_nI (by omega) (by omega), vp_in_nI (by omega) (by omega), ?_⟩
          by_cases hk : bf_ok (I 171) (20 + 20 * i) a b ya yb c = true
          · have hk2 := hk
            rw [eok] at hk2
            have hk3 := of_decide_eq_true hk2
            refine rs_wi_T ?_ (rb_M_fitsOf_147 (br_f br_10 ?_))
            · rw [Int32.toInt_toInt64, Int32.toInt_toInt64, Int32.toInt_toInt64, e1, e2, t3]; omega
            rw [nI_add, nI_add]
            rw [bm_cnt_T (by rw [hPc, hk]; rfl)] at h1
            exact h1 _ _ _
          · have hk2 := hk
            rw [eok] at hk2
            have hk3 := of_decide_eq_false (Bool.not_eq_true _ |>.mp hk2)
            refine rs_wi_F ?_ (rb_M_fitsOf_147 (br_t rfl ?_))
            · rw [Int32.toInt_toInt64, Int32.toInt_toInt64, Int32.toInt_toInt64, e1, e2, t3]; omega
            rw [nI_add, nI_add, Nat.add_zero]
            rw [bm_cnt_F (by rw [Bool.not_eq_true] at hk; rw [hk, Bool.and_false])] at h1
            exact h1 _ _ _
        have inner : ∀ k j (z1 : Option Value), j + k = yb - ya → br_r (d + 5) 285 56 [some (.ref 169), z1, some (.int (nI a)), some (.int (nI b)), some (.int (nI (20 + 20 * i))), some (.int (nI (bm_cnt (fun c => P c && bf_ok (I 171) (20 + 20 * i) a b ya yb c) c))), some (.int (nI c)), some (.int (bh_s (I 171) (20 + 20 * i) r w ya j)), some (.int (nI (ya + j)))] [] (br_hp n J L) Q := by
          intro k
          induction k with
          | zero =>
            intro j z1 hj
            have : j = yb - ya := by omega
            subst this
            refine rb_M_fitsOf_56 ?_
            rw [nI_add, nI_clamp (by omega), jg, eb, eS]
            exact ⟨vp_in_nI (by omega) (by omega), br_t (nI_le (by omega) (by omega)) (rs_M_grewOf (g := I 171) jg ha hb (by omega) (fin _ _ _))⟩
          | succ k ih2 =>
            intro j z1 hj
            have h2 := fun z1 => ih2 (j + 1) z1 (by omega)
            refine rb_M_fitsOf_56 ?_
            rw [nI_add, nI_add, nI_clamp (by omega), nI_clamp (by omega), jg, eb]
            refine ⟨vp_in_nI (by omega) (by omega), br_f (nI_ge (by omega) (by omega)) ⟨vp_in_nI (by omega) (by omega), rs_M_growsOf (g := I 171) jg (by omega) (by omega) er hr ew hw (rb_M_fitsOf_93 ?_)⟩⟩
            rw [nI_add]
            exact h2 _
        exact inner (yb - ya) 0 _ (by omega)
      · have hPc := bd_b0 (Classical.not_not.mp h)
        rw [nI_add]
        rw [bm_cnt_F (by rw [hPc]; rfl)] at h1
        exact h1 _ _ _
  refine rb_M_fitsOf_0 ?_
  rw [pk_mul, nI_add]
  exact loop N 0 _ _ _ (by omega)
end
