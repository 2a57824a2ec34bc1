set_option maxRecDepth 100000
set_option maxHeartbeats 4000000
/-! fractions compared -/
theorem br_xorT (x y : Int64) : (x ^^^ y).toInt < 0 ↔ ¬ (x.toInt < 0 ↔ y.toInt < 0) := by
  have h : ∀ z : Int64, z.toInt < 0 ↔ z.toBitVec.msb = true := fun z => by
    show z.toBitVec.toInt < 0 ↔ _
    rw [BitVec.msb_eq_toInt]; simp
  rw [h, h, h, Int64.toBitVec_xor, BitVec.msb_xor]
  cases x.toBitVec.msb <;> cases y.toBitVec.msb <;> simp
theorem fl_t (a b : Int) (hb : 0 < b) : (a.tdiv b) * b ≤ a ∧ a.tdiv b = a / b ∨ a < (a.tdiv b) * b ∧ a.tdiv b - 1 = a / b := by
  have h1 := Int.mul_tdiv_add_tmod a b
  have h2 := Int.tmod_lt_of_pos a hb
  have h3 : -b < a.tmod b := by
    have := Int.lt_tmod_of_pos a hb; omega
  have h4 : a.tdiv b * b = b * a.tdiv b := Int.mul_comm _ _
  by_cases h : 0 ≤ a.tmod b
  · refine Or.inl ⟨by omega, ?_⟩
    refine Int.le_antisymm ?_ ?_
    · rw [Int.le_ediv_iff_mul_le hb]; omega
    · have : a / b < a.tdiv b + 1 := by
        rw [Int.ediv_lt_iff_lt_mul hb, Int.add_mul]; omega
      omega
  · refine Or.inr ⟨by omega, ?_⟩
    refine Int.le_antisymm ?_ ?_
    · rw [Int.le_ediv_iff_mul_le hb, Int.sub_mul]; omega
    · have : a / b < a.tdiv b := by
        rw [Int.ediv_lt_iff_lt_mul hb]; omega
      omega
theorem fl_n (a b : Int) (hb : 0 < b) (h : 0 ≤ a) : (a.tdiv b) * b ≤ a := by
  have h1 := Int.mul_tdiv_add_tmod a b
  have h5 := Int.tmod_nonneg b h
  have h4 : a.tdiv b * b = b * a.tdiv b := Int.mul_comm _ _
  omega
theorem fl_m (a b : Int) (hb : 0 < b) (h : a < 0) : a ≤ (a.tdiv b) * b := by
  have h1 := Int.mul_tdiv_add_tmod a b
  have h5 := Int.tmod_nonneg b (show 0 ≤ -a by omega)
  rw [Int.neg_tmod] at h5
  have h4 : a.tdiv b * b = b * a.tdiv b := Int.mul_comm _ _
  omega
theorem ag_lt {q q' b d l o : Int} (h : q < q') (hb : 0 < b) (hd : 0 < d) (hl : l < b) (ho : 0 ≤ o) : (q * b + l) * d - (q' * d + o) * b < 0 := by
  have e : (q * b + l) * d - (q' * d + o) * b = -((q' - q - 1) * (b * d)) - d * (b - l) - o * b := by grind
  have h1 := Int.mul_nonneg (show 0 ≤ q' - q - 1 by omega) (Int.le_of_lt (Int.mul_pos hb hd))
  have h2 := Int.mul_pos hd (show 0 < b - l by omega)
  have h3 := Int.mul_nonneg ho (Int.le_of_lt hb)
  rw [e]; omega
theorem ag_eq {q b d l o : Int} : (q * b + l) * d - (q * d + o) * b = l * d - o * b := by grind
theorem ag_inv {q b d l o : Int} : d * l - b * o = (q * b + l) * d - (q * d + o) * b := by grind
theorem br_halfI {b l : Int} (hl : 0 < l) (h : l ≤ b) : 2 * (b % l) < b := by
  have h1 := Int.emod_lt_of_pos b hl
  have h2 := Int.mul_ediv_add_emod b l
  have h3 : 1 ≤ b / l := by rw [Int.le_ediv_iff_mul_le hl]; omega
  have h4 : l * 1 ≤ l * (b / l) := Int.mul_le_mul_of_nonneg_left h3 (by omega)
  omega
theorem br_ltJ {x y : Int64} : x < y ↔ x.toInt < y.toInt := Int64.lt_iff_toInt_lt
theorem br_leJ {x y : Int64} : x ≤ y ↔ x.toInt ≤ y.toInt := Int64.le_iff_toInt_le
theorem br_ldivT {x y : Int64} (hx : -9223372036854775808 < x.toInt) : (x / y).toInt = x.toInt.tdiv y.toInt := by
  rw [Int64.toInt_div]
  have h1 : (x.toInt.tdiv y.toInt).natAbs ≤ x.toInt.natAbs := by
    rw [Int.natAbs_tdiv]; exact Nat.div_le_self _ _
  have h2 := br_lhiT x
  exact Int.bmod_eq_of_le (by omega) (by omega)
theorem br_lqT {x y : Int64} (hx : -9223372036854775808 < x.toInt) : (x / y * y).toInt = x.toInt.tdiv y.toInt * y.toInt := by
  have h1 : (x.toInt.tdiv y.toInt * y.toInt).natAbs ≤ x.toInt.natAbs := by
    rw [Int.natAbs_mul, Int.natAbs_tdiv]; exact Nat.div_mul_le_self _ _
  have h2 := br_lhiT x
  have e := br_ldivT (y := y) hx
  rw [br_lmulT (by rw [e]; omega) (by rw [e]; omega), e]
section
variable {d n : Nat} {Q : br_Q} {I : Nat → Nat → Int32} {L : Nat → Nat → Int64}
theorem rs_floorA {x y : Int64} {z4 z5 : Option Value} (hy : 0 < y.toInt) (hx : -9223372036854775807 < x.toInt) (H : ∀ q : Int64, q.toInt = x.toInt / y.toInt → Q (some (.long q)) (br_hp n I L)) : br_r d 141 0 [some (.long x), none, some (.long y), none, z4, z5] [] (br_hp n I L) Q := by
  have z0 : (lN 0).toInt = 0 := pk_lT (by omega)
  have z1 : (lN 1).toInt = 1 := pk_lT (by omega)
  have ne : ¬ y = 0 := fun z => by rw [z] at hy; exact absurd hy (by decide)
  have eT := br_ldivT (y := y) (show -9223372036854775808 < x.toInt by omega)
  have eM := br_lqT (y := y) (show -9223372036854775808 < x.toInt by omega)
  have ft := fl_t x.toInt y.toInt hy
  have hxx := br_xorT x y
  refine rb_Math_floorDiv_0 ⟨ne, fun h => H _ ?_, fun h => ⟨fun h2 => H _ ?_, fun h2 => H _ ?_⟩⟩
  · rw [br_cmpGE, br_leJ, z0] at h
    have hn := fl_n x.toInt y.toInt hy (by omega)
    rw [eT]; omega
  · rw [br_cmpE] at h2
    have h3 := congrArg Int64.toInt h2
    rw [eM] at h3
    rw [eT]; omega
  · rw [br_cmpE] at h2
    rw [br_cmpGE, br_leJ, z0] at h
    have hm := fl_m x.toInt y.toInt hy (by omega)
    have h3 : ¬ x.toInt.tdiv y.toInt * y.toInt = x.toInt := fun z => h2 (Int64.toInt_inj.mp (by rw [eM]; exact z))
    have hb : (x.toInt.tdiv y.toInt).natAbs ≤ x.toInt.natAbs := by
      rw [Int.natAbs_tdiv]; exact Nat.div_le_self _ _
    have hh := br_lhiT x
    rw [br_lsubT (by rw [eT, z1]; omega) (by rw [eT, z1]; omega), eT, z1]; omega
theorem rs_floorM {x y : Int64} {z4 z5 : Option Value} (hy : 0 < y.toInt) (hx : -9223372036854775807 < x.toInt) (H : ∀ q : Int64, q.toInt = x.toInt / y.toInt → Q (some (.long q)) (br_hp n I L)) : br_r d 264 0 [some (.long x), none, some (.long y), none, z4, z5] [] (br_hp n I L) Q := by
  have z1 : (lN 1).toInt = 1 := pk_lT (by omega)
  have ne : ¬ y = 0 := fun z => by rw [z] at hy; exact absurd hy (by decide)
  have eT := br_ldivT (y := y) (show -9223372036854775808 < x.toInt by omega)
  have eM := br_lqT (y := y) (show -9223372036854775808 < x.toInt by omega)
  have ft := fl_t x.toInt y.toInt hy
  refine rb_M_floor_0 ⟨ne, fun h => H _ ?_, fun h => H _ ?_⟩
  · rw [br_cmpLE, br_leJ, eM] at h
    rw [eT]; omega
  · rw [br_cmpLE, br_leJ, eM] at h
    have hb : (x.toInt.tdiv y.toInt).natAbs ≤ x.toInt.natAbs := by
      rw [Int.natAbs_tdiv]; exact Nat.div_le_self _ _
    have hh := br_lhiT x
    rw [br_lsubT (by rw [eT, z1]; omega) (by rw [eT, z1]; omega), eT, z1]; omega
/-- what is left of a division, as a long -/
theorem br_leftT {x y q : Int64} (hy : 0 < y.toInt) (hx : x.toInt.natAbs < 4611686018427387904) (hy2 : y.toInt < 4611686018427387904) (hq : q.toInt = x.toInt / y.toInt) : (x - q * y).toInt = x.toInt % y.toInt ∧ q.toInt * y.toInt + (x - q * y).toInt = x.toInt := by
  have h1 := Int.mul_ediv_add_emod x.toInt y.toInt
  have h2 := Int.emod_lt_of_pos x.toInt hy
  have h3 := Int.emod_nonneg x.toInt (show y.toInt ≠ 0 by omega)
  have h4 : q.toInt * y.toInt = y.toInt * (x.toInt / y.toInt) := by rw [hq]; exact Int.mul_comm _ _
  have h5 : (q * y).toInt = q.toInt * y.toInt := br_lmulT (by omega) (by omega)
  have h6 : (x - q * y).toInt = x.toInt - (q * y).toInt := br_lsubT (by omega) (by omega)
  rw [h6, h5]; omega
def bs_sg (x : Int) : Int32 := if x < 0 then -(nI 1) else if 0 < x then nI 1 else nI 0
theorem bs_sg_n {x : Int} (h : x < 0) : bs_sg x = -(nI 1) := if_pos h
theorem bs_sg_p {x : Int} (h : 0 < x) : bs_sg x = nI 1 := by
  unfold bs_sg; rw [if_neg (by omega), if_pos h]
theorem bs_sg_0 {x : Int} (h : x = 0) : bs_sg x = nI 0 := by
  unfold bs_sg; rw [if_neg (by omega), if_neg (by omega)]
/-- two fractions' parts -/
theorem ag_all {a b c e q q' l o : Int} (hb : 0 < b) (he : 0 < e) (h1 : q * b + l = a) (h2 : q' * e + o = c) (l0 : 0 ≤ l) (l1 : l < b) (o0 : 0 ≤ o) (o1 : o < e) : (q < q' → a * e - c * b < 0) ∧ (q' < q → 0 < a * e - c * b) ∧ (q = q' → a * e - c * b = l * e - o * b) := by
  subst h1 h2
  refine ⟨fun h => ag_lt h hb he l1 o0, fun h => ?_, fun h => ?_⟩
  · have := ag_lt h he hb o1 l0
    omega
  · subst h; exact ag_eq
theorem rs_ag_step {a b c e : Int64} {s : Nat} {z0 z1 z11 z12 z13 z14 z15 z16 z17 z18 : Option Value} (hs : s < 200) (hb : 0 < b.toInt) (he : 0 < e.toInt) (ha : a.toInt.natAbs < 4611686018427387904) (hc : c.toInt.natAbs < 4611686018427387904) (hb2 : b.toInt < 4611686018427387904) (he2 : e.toInt < 4611686018427387904)
    (Hend : Q (some (.int (bs_sg (a.toInt * e.toInt - c.toInt * b.toInt)))) (br_hp n I L))
    (Hgo : ∀ (l o : Int64) (z1 z11 z12 z13 z14 z15 z16 z17 z18 : Option Value), 0 < l.toInt → l.toInt < b.toInt → 0 < o.toInt → o.toInt < e.toInt → l.toInt = a.toInt % b.toInt → o.toInt = c.toInt % e.toInt → e.toInt * l.toInt - b.toInt * o.toInt = a.toInt * e.toInt - c.toInt * b.toInt →
      br_r (d + 1) 140 26 [z0, z1, some (.long e), none, some (.long o), none, some (.long b), none, some (.long l), none, some (.int (nI (s + 1))), z11, z12, z13, z14, z15, z16, z17, z18] [] (br_hp n I L) Q) :
    br_r (d + 1) 140 26 [z0, z1, some (.long a), none, some (.long b), none, some (.long c), none, some (.long e), none, some (.int (nI s)), z11, z12, z13, z14, z15, z16, z17, z18] [] (br_hp n I L) Q := by
  have y0 : (lN 0).toInt = 0 := pk_lT (by omega)
  refine rb_Fraction_against_26 (br_f (nI_ge (b := 200) hs (by omega)) (br_f ?_ (br_f ?_ (rs_floorA hb (by omega) (fun q hq => rb_Fraction_against_54 (rs_floorA he (by omega) (fun q' hq' => rb_Fraction_against_63 ?_)))))))
  · rw [br_cmpLE, br_leJ, y0]; omega
  · rw [br_cmpLE, br_leJ, y0]; omega
  obtain ⟨l1, l2⟩ := br_leftT hb ha hb2 hq
  obtain ⟨o1, o2⟩ := br_leftT he hc he2 hq'
  have lb := Int.emod_lt_of_pos a.toInt hb
  have l0 := Int.emod_nonneg a.toInt (show b.toInt ≠ 0 by omega)
  have ob := Int.emod_lt_of_pos c.toInt he
  have o0 := Int.emod_nonneg c.toInt (show e.toInt ≠ 0 by omega)
  generalize a - q * b = l at l1 l2 ⊢
  generalize c - q' * e = o at o1 o2 ⊢
  obtain ⟨c1, c2, c3⟩ := ag_all hb he l2 o2 (by omega) (by omega) (by omega) (by omega)
  have qe : lg_cmp q q' = nI 0 → q.toInt = q'.toInt := fun h => by rw [br_cmpE] at h; rw [h]
  have cmp : lg_cmp q q' = nI 0 → (l.toInt = 0 ∨ o.toInt = 0) → br_r d 142 0 [some (.long l), none, some (.long o), none] [] (br_hp n I L) (fun v h => br_r (d + 1) 140 127 [z0, z1, some (.long a), none, some (.long b), none, some (.long c), none, some (.long e), none, some (.int (nI s)), some (.long q), none, some (.long q'), none, some (.long l), none, some (.long o), none] (v.toList ++ []) (br_bk h) Q) := by
    intro h h2
    have hx := c3 (qe h)
    have key : ∀ v, v = bs_sg (a.toInt * e.toInt - c.toInt * b.toInt) → br_r (d + 1) 140 127 [z0, z1, some (.long a), none, some (.long b), none, some (.long c), none, some (.long e), none, some (.int (nI s)), some (.long q), none, some (.long q'), none, some (.long l), none, some (.long o), none] [.int v] (br_hp n I L) Q := fun v hv => by
      subst hv; exact rb_Fraction_against_127 Hend
    refine rb_Long_compare_0 ⟨fun h3 => ⟨fun h4 => key _ ?_, fun h4 => key _ ?_⟩, fun h3 => key _ ?_⟩
    · rw [br_cmpGE, br_leJ] at h3
      rw [br_cmpE] at h4
      have h5 : ¬ l.toInt = o.toInt := fun z => h4 (Int64.toInt_inj.mp z)
      have o00 : o.toInt = 0 := by omega
      rw [bs_sg_p (by rw [hx, o00, Int.zero_mul]; have := Int.mul_pos (show 0 < l.toInt by omega) he; omega)]
    · rw [br_cmpE] at h4
      have h5 := Classical.not_not.mp h4
      rw [bs_sg_0 (by
        rw [hx]
        have e1 : l.toInt = o.toInt := by rw [h5]
        have e2 : l.toInt = 0 := by omega
        have e3 : o.toInt = 0 := by omega
        rw [e2, e3, Int.zero_mul, Int.zero_mul]; rfl)]
    · rw [br_cmpGE, br_leJ] at h3
      have l00 : l.toInt = 0 := by omega
      rw [bs_sg_n (by rw [hx, l00, Int.zero_mul]; have := Int.mul_pos (show 0 < o.toInt by omega) hb; omega)]
  refine ⟨fun h => ⟨fun h2 => cmp h ?_, fun h2 => ⟨fun h3 => ?_, fun h3 => cmp h ?_⟩⟩, fun h => ⟨fun h2 => ?_, fun h2 => ?_⟩⟩
  · rw [br_cmpE] at h2; exact Or.inl (by rw [h2, y0])
  · rw [nI_add]
    have n1 : ¬ l.toInt = 0 := fun z => h2 (by rw [br_cmpE]; exact Int64.toInt_inj.mp (by rw [z, y0]))
    have n2 : ¬ o.toInt = 0 := fun z => h3 (by rw [br_cmpE]; exact Int64.toInt_inj.mp (by rw [z, y0]))
    refine Hgo l o _ _ _ _ _ _ _ _ _ (by omega) (by omega) (by omega) (by omega) l1 o1 ?_
    rw [c3 (qe h), Int.mul_comm e.toInt, Int.mul_comm b.toInt]
  · rw [br_cmpE] at h3
    exact Or.inr (by rw [Classical.not_not.mp h3, y0])
  · rw [br_cmpGE, br_leJ] at h2
    rw [br_cmpE] at h
    have h5 : ¬ q.toInt = q'.toInt := fun z => h (Int64.toInt_inj.mp z)
    rw [bs_sg_p (c2 (by omega))] at Hend; exact Hend
  · rw [br_cmpGE, br_leJ] at h2
    rw [bs_sg_n (c1 (by omega))] at Hend; exact Hend
theorem rs_ag : ∀ (k s : Nat) (a b c e : Int64) (z0 z1 z11 z12 z13 z14 z15 z16 z17 z18 : Option Value), s + 2 * k ≤ 199 → k ≤ 62 → 0 < b.toInt → 0 < e.toInt → a.toInt.natAbs < 4611686018427387904 → c.toInt.natAbs < 4611686018427387904 → b.toInt.toNat < 2 ^ k → e.toInt.toNat < 2 ^ k →
    Q (some (.int (bs_sg (a.toInt * e.toInt - c.toInt * b.toInt)))) (br_hp n I L) →
    br_r (d + 1) 140 26 [z0, z1, some (.long a), none, some (.long b), none, some (.long c), none, some (.long e), none, some (.int (nI s)), z11, z12, z13, z14, z15, z16, z17, z18] [] (br_hp n I L) Q := by
  intro k
  induction k with
  | zero => intro s a b c e z0 z1 z11 z12 z13 z14 z15 z16 z17 z18 hs hk hb he ha hc hb2 he2 H; omega
  | succ k ih =>
    intro s a b c e z0 z1 z11 z12 z13 z14 z15 z16 z17 z18 hs hk hb he ha hc hb2 he2 H
    have hp : 2 ^ (k + 1) ≤ 2 ^ 62 := Nat.pow_le_pow_right (by omega) hk
    have hps : 2 ^ (k + 1) = 2 * 2 ^ k := by rw [Nat.pow_succ]; omega
    refine rs_ag_step (by omega) hb he ha hc (by omega) (by omega) H (fun l o _ _ _ _ _ _ _ _ _ l0 lb o0 ob lm om hx => rs_ag_step (by omega) o0 l0 (by omega) (by omega) (by omega) (by omega) (by rw [hx]; exact H) (fun l2 o2 _ _ _ _ _ _ _ _ _ l20 l2b o20 o2b l2m o2m hx2 => ih (s + 2) l o2 o l2 _ _ _ _ _ _ _ _ _ _ (by omega) (by omega) o20 l20 (by omega) (by omega) ?_ ?_ (by rw [hx2, hx]; exact H)))
    · have := br_halfI l0 (Int.le_of_lt lb)
      rw [← o2m] at this; omega
    · have := br_halfI o0 (Int.le_of_lt ob)
      rw [← l2m] at this; omega
theorem rs_against {p q : Nat} {z2 z3 z4 z5 z6 z7 z8 z9 z10 z11 z12 z13 z14 z15 z16 z17 z18 : Option Value} (hp : br_S0 n p = (0, 1)) (hq : br_S0 n q = (0, 1)) (hb : 0 < (L p 1).toInt) (he : 0 < (L q 1).toInt) (ha : (L p 0).toInt.natAbs < 4611686018427387904) (hc : (L q 0).toInt.natAbs < 4611686018427387904) (hb2 : (L p 1).toInt < 4611686018427387904) (he2 : (L q 1).toInt < 4611686018427387904)
    (H : Q (some (.int (bs_sg ((L p 0).toInt * (L q 1).toInt - (L q 0).toInt * (L p 1).toInt)))) (br_hp n I L)) :
    br_r (d + 1) 140 0 [some (.ref p), some (.ref q), z2, z3, z4, z5, z6, z7, z8, z9, z10, z11, z12, z13, z14, z15, z16, z17, z18] [] (br_hp n I L) Q := by
  refine rb_Fraction_against_0 ⟨hp, hp, hq, hq, rs_ag 62 0 _ _ _ _ _ _ _ _ _ _ _ _ _ _ (by omega) (by omega) hb he ha hc ?_ ?_ H⟩
  · have : (2 : Nat) ^ 62 = 4611686018427387904 := by decide
    omega
  · have : (2 : Nat) ^ 62 = 4611686018427387904 := by decide
    omega
end
