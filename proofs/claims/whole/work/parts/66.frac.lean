set_option maxRecDepth 100000
set_option maxHeartbeats 4000000
/-! fractions by least numbers -/
theorem br_lloT (x : Int64) : -9223372036854775808 ≤ x.toInt := Int64.le_toInt x
theorem br_lhiT (x : Int64) : x.toInt < 9223372036854775808 := Int64.toInt_lt x
theorem br_laddT {x y : Int64} (h : -9223372036854775808 ≤ x.toInt + y.toInt) (h2 : x.toInt + y.toInt < 9223372036854775808) : (x + y).toInt = x.toInt + y.toInt := by
  rw [Int64.toInt_add, Int.bmod_eq_of_le (by omega) (by omega)]
theorem br_lsubT {x y : Int64} (h : -9223372036854775808 ≤ x.toInt - y.toInt) (h2 : x.toInt - y.toInt < 9223372036854775808) : (x - y).toInt = x.toInt - y.toInt := by
  rw [Int64.toInt_sub, Int.bmod_eq_of_le (by omega) (by omega)]
theorem br_lmulT {x y : Int64} (h : -9223372036854775808 ≤ x.toInt * y.toInt) (h2 : x.toInt * y.toInt < 9223372036854775808) : (x * y).toInt = x.toInt * y.toInt := by
  rw [Int64.toInt_mul, Int.bmod_eq_of_le (by omega) (by omega)]
theorem br_lnT {x : Int64} (h : -9223372036854775808 < x.toInt) : (-x).toInt = -x.toInt := by
  have := br_lhiT x
  rw [Int64.toInt_neg, Int.bmod_eq_of_le (by omega) (by omega)]
theorem br_lnN {x : Int64} (h : 0 ≤ x.toInt) : ∃ k : Nat, x = lN k ∧ (k : Int) = x.toInt := by
  have h2 := br_lhiT x
  refine ⟨x.toInt.toNat, Int64.toInt_inj.mp ?_, by omega⟩
  rw [pk_lT (by omega)]
  omega
def bf_g (u l : Int64) : Nat := Nat.gcd u.toInt.natAbs l.toInt.toNat
def bf_u (u l : Int64) : Int64 := if 0 < l.toInt then u / lN (bf_g u l) else lN 0
def bf_l (u l : Int64) : Int64 := if 0 < l.toInt then l / lN (bf_g u l) else lN 0
theorem bf_uT {u l : Int64} (h : 0 < l.toInt) : bf_u u l = u / lN (bf_g u l) := if_pos h
theorem bf_lT {u l : Int64} (h : 0 < l.toInt) : bf_l u l = l / lN (bf_g u l) := if_pos h
theorem bf_uF {u l : Int64} (h : ¬ 0 < l.toInt) : bf_u u l = lN 0 := if_neg h
theorem bf_lF {u l : Int64} (h : ¬ 0 < l.toInt) : bf_l u l = lN 0 := if_neg h
theorem bf_g_pos {u l : Int64} (h : 0 < l.toInt) : 0 < bf_g u l := Nat.gcd_pos_of_pos_right _ (by omega)
theorem bf_g_lt {u l : Int64} (h : 0 < l.toInt) : bf_g u l < 2 ^ 63 := by
  have h1 : bf_g u l ≤ l.toInt.toNat := Nat.le_of_dvd (by omega) (Nat.gcd_dvd_right _ _)
  have h2 := br_lhiT l
  omega
theorem bf_l_pos {u l : Int64} (h : 0 < l.toInt) : 0 < (bf_l u l).toInt ∧ (bf_l u l).toInt ≤ l.toInt := by
  obtain ⟨k, ek, hk⟩ := br_lnN (x := l) (by omega)
  have h2 := br_lhiT l
  rw [bf_lT h]
  have g1 := bf_g_pos (u := u) h
  have g2 := bf_g_lt (u := u) h
  have gd : bf_g u l ∣ k := by
    have : l.toInt.toNat = k := by omega
    rw [← this]; exact Nat.gcd_dvd_right _ _
  generalize bf_g u l = g at g1 g2 gd
  subst ek
  rw [pk_lDiv (by omega) g1 g2, pk_lT (Nat.lt_of_le_of_lt (Nat.div_le_self _ _) (by omega))]
  have h3 : 0 < k / g := Nat.div_pos (Nat.le_of_dvd (by omega) gd) g1
  have h4 : k / g ≤ k := Nat.div_le_self _ _
  omega
theorem bf_l_iff {u l : Int64} : 0 < (bf_l u l).toInt ↔ 0 < l.toInt := by
  by_cases h : 0 < l.toInt
  · exact ⟨fun _ => h, fun _ => (bf_l_pos h).1⟩
  · rw [bf_lF h]
    have : (lN 0).toInt = 0 := pk_lT (by omega)
    omega
theorem bf_l_nn {u l : Int64} : 0 ≤ (bf_l u l).toInt := by
  by_cases h : 0 < l.toInt
  · have := (bf_l_pos (u := u) h).1; omega
  · rw [bf_lF h, pk_lT (by omega)]; omega
theorem bf_u_abs {u l : Int64} (hu : -9223372036854775808 < u.toInt) : (bf_u u l).toInt.natAbs ≤ u.toInt.natAbs := by
  by_cases h : 0 < l.toInt
  · rw [bf_uT h]
    have g1 := bf_g_pos (u := u) h
    have g2 := bf_g_lt (u := u) h
    have h2 := br_lhiT u
    have e : (u / lN (bf_g u l)).toInt = (u.toInt.tdiv (bf_g u l : Int)).bmod (2 ^ 64) := by rw [Int64.toInt_div, pk_lT g2]
    have e2 : (u.toInt.tdiv (bf_g u l : Int)).natAbs = u.toInt.natAbs / bf_g u l := by rw [Int.natAbs_tdiv]; rfl
    have e3 : u.toInt.natAbs / bf_g u l ≤ u.toInt.natAbs := Nat.div_le_self _ _
    rw [e, Int.bmod_eq_of_le (by omega) (by omega), e2]
    exact e3
  · rw [bf_uF h, pk_lT (by omega)]; simp
theorem br_uu2 {α : Type} {f : Nat → Nat → α} {p : Nat} {a b x y : α} : br_u (br_u (br_u (br_u f p 0 a) p 1 b) p 0 x) p 1 y = br_u (br_u f p 0 x) p 1 y := by
  funext q j
  unfold br_u
  by_cases h1 : q = p ∧ j = 1
  · rw [if_pos h1, if_pos h1]
  · by_cases h0 : q = p ∧ j = 0
    · simp only [if_neg h1, if_pos h0]
    · simp only [if_neg h1, if_neg h0]
section
variable {d n : Nat} {Q : br_Q} {I : Nat → Nat → Int32} {L : Nat → Nat → Int64}
theorem rs_common {a b : Nat} {z4 z5 z6 : Option Value} (ha : a < 2 ^ 63) (hb : b < 2 ^ 63) (H : Q (some (.long (lN (Nat.gcd a b)))) (br_hp n I L)) : br_r d 125 0 [some (.long (lN a)), none, some (.long (lN b)), none, z4, z5, z6] [] (br_hp n I L) Q := by
  have loop : ∀ m k a b (z5 z6 : Option Value), b < 2 ^ m → k + 2 * m ≤ 200 → a < 2 ^ 63 → b < 2 ^ 63 → Q (some (.long (lN (Nat.gcd a b)))) (br_hp n I L) →
      br_r d 125 3 [some (.long (lN a)), none, some (.long (lN b)), none, some (.int (nI k)), z5, z6] [] (br_hp n I L) Q := by
    intro m
    induction m with
    | zero =>
      intro k a b z5 z6 hb hk ha hb2 h
      have : b = 0 := by rw [Nat.pow_zero] at hb; omega
      subst this
      rw [Nat.gcd_zero_right] at h
      exact rb_Fraction_commonDivisor_3 ⟨fun _ => h, fun _ => br_t (br_cmpE.mpr rfl) h⟩
    | succ m ih =>
      intro k a b z5 z6 hb hk ha hb2 h
      by_cases h0 : b = 0
      · subst h0
        rw [Nat.gcd_zero_right] at h
        exact rb_Fraction_commonDivisor_3 ⟨fun _ => h, fun _ => br_t (br_cmpE.mpr rfl) h⟩
      · have hne : ∀ c : Nat, c < 2 ^ 63 → ¬ c = 0 → ¬ lN c = 0 := fun c hc h0 z => h0 ((pk_lEQ hc (by omega)).mp z)
        have hm : a % b < b := Nat.mod_lt _ (by omega)
        have hg : Nat.gcd a b = Nat.gcd b (a % b) := by rw [Nat.gcd_comm a b, Nat.gcd_rec b a, Nat.gcd_comm]
        refine rb_Fraction_commonDivisor_3 (br_f (nI_ge (b := 200) (by omega) (by omega)) (br_f (fun z => hne b hb2 h0 (br_cmpE.mp z)) ⟨hne b hb2 h0, ?_⟩))
        rw [pk_lRem ha (by omega) hb2, nI_add]
        rw [hg] at h
        by_cases h1 : a % b = 0
        · rw [h1] at h ⊢
          rw [Nat.gcd_zero_right] at h
          exact rb_Fraction_commonDivisor_3 ⟨fun _ => h, fun _ => br_t (br_cmpE.mpr rfl) h⟩
        · have hm2 : b % (a % b) < a % b := Nat.mod_lt _ (by omega)
          have hg2 : Nat.gcd b (a % b) = Nat.gcd (a % b) (b % (a % b)) := by rw [Nat.gcd_comm b (a % b), Nat.gcd_rec (a % b) b, Nat.gcd_comm]
          refine rb_Fraction_commonDivisor_3 (br_f (nI_ge (b := 200) (by omega) (by omega)) (br_f (fun z => hne (a % b) (by omega) h1 (br_cmpE.mp z)) ⟨hne (a % b) (by omega) h1, ?_⟩))
          rw [pk_lRem hb2 (by omega) (by omega), nI_add]
          rw [hg2] at h
          have hh := br_half (a := a) (b := b) (by omega) (by omega)
          have hpw : (2 : Nat) ^ (m + 1) = 2 * 2 ^ m := by rw [Nat.pow_succ]; omega
          exact ih (k + 1 + 1) (a % b) (b % (a % b)) _ _ (by omega) (by omega) (by omega) (by omega) h
  exact rb_Fraction_commonDivisor_0 (loop 63 0 a b z5 z6 hb (by omega) ha hb H)
theorem rs_absJ {x : Int64} (hx : -9223372036854775808 < x.toInt) (H : Q (some (.long (lN x.toInt.natAbs))) (br_hp n I L)) : br_r d 124 0 [some (.long x), none] [] (br_hp n I L) Q := by
  have hi := br_lhiT x
  have z0 : (lN 0).toInt = 0 := pk_lT (by omega)
  refine rb_Math_abs_J_0 ⟨fun h => ?_, fun h => ?_⟩
  · rw [br_cmpGE, Int64.le_iff_toInt_le] at h
    have e : lN x.toInt.natAbs = x := Int64.toInt_inj.mp (by rw [pk_lT (by omega)]; omega)
    rw [e] at H; exact H
  · rw [br_cmpGE, Int64.le_iff_toInt_le] at h
    have e : lN x.toInt.natAbs = -x := Int64.toInt_inj.mp (by rw [pk_lT (by omega), br_lnT hx]; omega)
    rw [e] at H; exact H
theorem rs_clearF {p : Nat} (hp : br_S0 n p = (0, 1)) (H : Q none (br_hp n I (br_u (br_u L p 0 (lN 0)) p 1 (lN 0)))) : br_r d 107 0 [some (.ref p)] [] (br_hp n I L) Q := rb_Fraction_clear_0 ⟨hp, hp, H⟩
theorem rs_become {p : Nat} {u l : Int64} {z5 z6 : Option Value} (hp : br_S0 n p = (0, 1)) (hu : -9223372036854775808 < u.toInt) (H : Q none (br_hp n I (br_u (br_u L p 0 (bf_u u l)) p 1 (bf_l u l)))) :
    br_r (d + 1) 123 0 [some (.ref p), some (.long u), none, some (.long l), none, z5, z6] [] (br_hp n I L) Q := by
  have z0 : (lN 0).toInt = 0 := pk_lT (by omega)
  have ui := br_lhiT u
  have li := br_lhiT l
  refine rb_Fraction_become_0 ⟨hp, rs_clearF hp (rb_Fraction_become_4 ⟨fun h => ?_, fun h => ?_⟩)⟩
  · rw [br_cmpLE, Int64.le_iff_toInt_le] at h
    rw [bf_uF (by omega), bf_lF (by omega)] at H
    exact H
  · rw [br_cmpLE, Int64.le_iff_toInt_le] at h
    have hl : 0 < l.toInt := by omega
    obtain ⟨k, ek, hk⟩ := br_lnN (x := l) (by omega)
    rw [bf_uT hl, bf_lT hl] at H
    have g1 := bf_g_pos (u := u) hl
    have g2 := bf_g_lt (u := u) hl
    have eg : bf_g u l = Nat.gcd u.toInt.natAbs k := by
      unfold bf_g
      have : l.toInt.toNat = k := by omega
      rw [this]
    refine rs_absJ hu (rb_Fraction_become_14 ?_)
    rw [ek]
    refine rs_common (by omega) (by omega) ?_
    rw [← ek, ← eg]
    have gne : ¬ lN (bf_g u l) = 0 := fun z => by
      have := (pk_lEQ (b := 0) g2 (by omega)).mp z
      omega
    have gc : ¬ lg_cmp (lN (bf_g u l)) (lN 0) ≤ nI 0 := by
      rw [br_cmpLE, Int64.le_iff_toInt_le, pk_lT g2]; omega
    refine rb_Fraction_become_18 (br_f gc ⟨gne, hp, br_f gc ⟨gne, hp, ?_⟩⟩)
    rw [br_uu2]
    exact H
theorem rs_M_common {u : Int64} {b : Nat} {z4 z5 z6 z7 z8 z9 : Option Value} (hu : -9223372036854775808 < u.toInt) (hb : b < 2 ^ 63) (H : Q (some (.long (lN (Nat.gcd u.toInt.natAbs b)))) (br_hp n I L)) :
    br_r d 252 0 [some (.long u), none, some (.long (lN b)), none, z4, z5, z6, z7, z8, z9] [] (br_hp n I L) Q := by
  have hi := br_lhiT u
  have z0 : (lN 0).toInt = 0 := pk_lT (by omega)
  have loop : ∀ m a b (z0 z1 z2 z3 z8 z9 : Option Value), b ≤ m → a < 2 ^ 63 → b < 2 ^ 63 → Q (some (.long (lN (Nat.gcd a b)))) (br_hp n I L) →
      br_r d 252 17 [z0, z1, z2, z3, some (.long (lN a)), none, some (.long (lN b)), none, z8, z9] [] (br_hp n I L) Q := by
    intro m
    induction m with
    | zero =>
      intro a b z0 z1 z2 z3 z8 z9 hbm ha hb h
      have : b = 0 := Nat.le_zero.mp hbm
      subst this
      rw [Nat.gcd_zero_right] at h
      exact rb_M_common_17 (br_t (br_cmpE.mpr rfl) h)
    | succ m ih =>
      intro a b z0 z1 z2 z3 z8 z9 hbm ha hb h
      by_cases h0 : b = 0
      · subst h0
        rw [Nat.gcd_zero_right] at h
        exact rb_M_common_17 (br_t (br_cmpE.mpr rfl) h)
      · have hne : ¬ lN b = 0 := fun z => h0 ((pk_lEQ hb (by omega)).mp z)
        have hm : a % b < b := Nat.mod_lt _ (by omega)
        have hg : Nat.gcd a b = Nat.gcd b (a % b) := by rw [Nat.gcd_comm a b, Nat.gcd_rec b a, Nat.gcd_comm]
        refine rb_M_common_17 (br_f (fun z => hne (br_cmpE.mp z)) ⟨hne, ?_⟩)
        rw [pk_lRem ha (by omega) hb]
        rw [hg] at h
        exact ih b (a % b) _ _ _ _ _ _ (by omega) hb (by omega) h
  refine rb_M_common_0 ⟨fun h => ?_, fun h => ?_⟩
  · rw [br_cmpGE, Int64.le_iff_toInt_le] at h
    have e : u = lN u.toInt.natAbs := Int64.toInt_inj.mp (by rw [pk_lT (by omega)]; omega)
    have l0 := loop b u.toInt.natAbs b (some (.long u)) none (some (.long (lN b))) none z8 z9 (Nat.le_refl _) (by omega) hb H
    rw [← e] at l0
    exact l0
  · rw [br_cmpGE, Int64.le_iff_toInt_le] at h
    have e : -u = lN u.toInt.natAbs := Int64.toInt_inj.mp (by rw [pk_lT (by omega), br_lnT hu]; omega)
    have l0 := loop b u.toInt.natAbs b (some (.long u)) none (some (.long (lN b))) none z8 z9 (Nat.le_refl _) (by omega) hb H
    rw [← e] at l0
    exact l0
theorem rs_M_tells {u l : Int64} {z5 z6 : Option Value} (hu : -9223372036854775808 < u.toInt) (hl : 0 ≤ l.toInt) (H : Q (some (.int (nI (decide (0 < l.toInt)).toNat))) (br_hp n I (br_u (br_u L 169 19 (bf_u u l)) 169 20 (bf_l u l)))) :
    br_r (d + 1) 251 0 [some (.ref 169), some (.long u), none, some (.long l), none, z5, z6] [] (br_hp n I L) Q := by
  have z0 : (lN 0).toInt = 0 := pk_lT (by omega)
  have li := br_lhiT l
  by_cases h0 : 0 < l.toInt
  · obtain ⟨k, ek, hk⟩ := br_lnN (x := l) (by omega)
    rw [bu_dT h0, bf_uT h0, bf_lT h0] at H
    have g1 := bf_g_pos (u := u) h0
    have g2 := bf_g_lt (u := u) h0
    have eg : bf_g u l = Nat.gcd u.toInt.natAbs k := by
      unfold bf_g
      have : l.toInt.toNat = k := by omega
      rw [this]
    have hc : ¬ lg_cmp l (lN 0) = nI 0 := fun z => by
      have := br_cmpE.mp z
      rw [this] at h0; omega
    have gne : ¬ lN (bf_g u l) = 0 := fun z => by
      have := (pk_lEQ (b := 0) g2 (by omega)).mp z
      omega
    refine rb_M_tells_0 (br_t hc ?_)
    rw [ek]
    refine rs_M_common hu (by omega) ?_
    rw [← ek, ← eg]
    exact rb_M_tells_15 (br_t hc ⟨gne, br_t hc ⟨gne, br_t hc H⟩⟩)
  · have e : l = lN 0 := Int64.toInt_inj.mp (by omega)
    rw [bu_dF h0, bf_uF h0, bf_lF h0] at H
    have hc : lg_cmp l (lN 0) = nI 0 := br_cmpE.mpr e
    exact rb_M_tells_0 (br_f (fun z => z hc) (rb_M_tells_15 (br_f (fun z => z hc) (br_f (fun z => z hc) (br_f (fun z => z hc) H)))))
theorem rs_isNone {p : Nat} (hp : br_S0 n p = (0, 1)) (H : Q (some (.int (nI (decide (¬ 0 < (L p 1).toInt)).toNat))) (br_hp n I L)) : br_r d 132 0 [some (.ref p)] [] (br_hp n I L) Q := by
  have z0 : (lN 0).toInt = 0 := pk_lT (by omega)
  refine rb_Fraction_isNone_0 ⟨hp, fun h => ?_, fun h => ?_⟩
  · rw [br_cmp1, Int64.lt_iff_toInt_lt] at h
    rw [bu_dF (by omega)] at H; exact H
  · rw [br_cmp1, Int64.lt_iff_toInt_lt] at h
    rw [bu_dT (by omega)] at H; exact H
end
