set_option maxRecDepth 100000
set_option maxHeartbeats 4000000
section
variable {d n : Nat} {Q : br_Q} {I : Nat → Nat → Int32} {L : Nat → Nat → Int64}
/-- less, or, upside down, greater -/
def bl_lt (w : Bool) (x : Int) : Bool := if w = true then decide (0 < x) else decide (x < 0)
theorem bl_lt_neg {w : Bool} {x : Int} : bl_lt (!w) (-x) = bl_lt w x := by
  cases w
  · show decide (0 < -x) = decide (x < 0)
    exact decide_eq_decide.mpr ⟨fun h => by omega, fun h => by omega⟩
  · show decide (-x < 0) = decide (0 < x)
    exact decide_eq_decide.mpr ⟨fun h => by omega, fun h => by omega⟩
theorem rs_M_il : ∀ (k : Nat) (w : Bool) (a b c e : Int64) (z0 z1 z2 z3 z4 z5 z6 z7 z17 z18 z19 z20 z21 z22 z23 z24 : Option Value), b.toInt.toNat < k → 0 < b.toInt → 0 < e.toInt → a.toInt.natAbs < 4611686018427387904 → c.toInt.natAbs < 4611686018427387904 → b.toInt < 4611686018427387904 → e.toInt < 4611686018427387904 →
    Q (some (.int (nI (bl_lt w (a.toInt * e.toInt - c.toInt * b.toInt)).toNat))) (br_hp n I L) →
    br_r (d + 1) 263 17 [z0, z1, z2, z3, z4, z5, z6, z7, some (.long a), none, some (.long b), none, some (.long c), none, some (.long e), none, some (.int (nI w.toNat)), z17, z18, z19, z20, z21, z22, z23, z24] [] (br_hp n I L) Q := by
  intro k
  induction k with
  | zero => intro w a b c e z0 z1 z2 z3 z4 z5 z6 z7 z17 z18 z19 z20 z21 z22 z23 z24 hk; omega
  | succ k ih =>
    intro w a b c e z0 z1 z2 z3 z4 z5 z6 z7 z17 z18 z19 z20 z21 z22 z23 z24 hk hb he ha hc hb2 he2 H
    have y0 : (lN 0).toInt = 0 := pk_lT (by omega)
    refine rb_M_isLess_17 (rs_floorM hb (by omega) (fun q hq => rb_M_isLess_24 (rs_floorM he (by omega) (fun q' hq' => rb_M_isLess_33 ?_))))
    obtain ⟨l1, l2⟩ := br_leftT hb ha hb2 hq
    obtain ⟨o1, o2⟩ := br_leftT he hc he2 hq'
    have lb := Int.emod_lt_of_pos a.toInt hb
    have l0 := Int.emod_nonneg a.toInt (show b.toInt ≠ 0 by omega)
    have ob := Int.emod_lt_of_pos c.toInt he
    have o0 := Int.emod_nonneg c.toInt (show e.toInt ≠ 0 by omega)
    obtain ⟨c1, c2, c3⟩ := ag_all hb he l2 o2 (by omega) (by omega) (by omega) (by omega)
    refine ⟨fun h => rb_M_isLess_78 ?_, fun h => ⟨fun hw => ⟨fun h2 => ?_, fun h2 => ?_⟩, fun hw => ⟨fun h2 => ?_, fun h2 => ?_⟩⟩⟩
    · have qe : q.toInt = q'.toInt := by rw [br_cmpE] at h; rw [h]
      have hx := c3 qe
      generalize a - q * b = l at l1 l2 hx c1 c2 c3 ⊢
      generalize c - q' * e = o at o1 o2 hx c1 c2 c3 ⊢
      have zl : lg_cmp l (lN 0) = nI 0 ↔ l.toInt = 0 := by
        rw [br_cmpE]; exact ⟨fun z => by rw [z, y0], fun z => Int64.toInt_inj.mp (by rw [z, y0])⟩
      have zo : lg_cmp o (lN 0) = nI 0 ↔ o.toInt = 0 := by
        rw [br_cmpE]; exact ⟨fun z => by rw [z, y0], fun z => Int64.toInt_inj.mp (by rw [z, y0])⟩
      have final : (l.toInt = 0 ∨ o.toInt = 0) → ∀ (z8 z9 z10 z11 z12 z13 z14 z15 z17 z18 z19 z20 : Option Value), br_r (d + 1) 263 112 [z0, z1, z2, z3, z4, z5, z6, z7, z8, z9, z10, z11, z12, z13, z14, z15, some (.int (nI w.toNat)), z17, z18, z19, z20, some (.long l), none, some (.long o), none] [] (br_hp n I L) Q := by
        intro hz z8 z9 z10 z11 z12 z13 z14 z15 z17 z18 z19 z20
        have tail : ¬ (l.toInt = 0 ∧ o.toInt = 0) → br_r (d + 1) 263 130 [z0, z1, z2, z3, z4, z5, z6, z7, z8, z9, z10, z11, z12, z13, z14, z15, some (.int (nI w.toNat)), z17, z18, z19, z20, some (.long l), none, some (.long o), none] [] (br_hp n I L) Q := by
          intro hn
          refine rb_M_isLess_130 ⟨fun hw => ?_, fun hw => ?_⟩
          · have w0 := bd_b0 hw
            subst w0
            rw [zl]
            refine ⟨fun h5 => ?_, fun h5 => ?_⟩
            · have o00 : o.toInt = 0 := by omega
              have : bl_lt false (a.toInt * e.toInt - c.toInt * b.toInt) = false := decide_eq_false (by
                rw [hx, o00, Int.zero_mul]; have := Int.mul_pos (show 0 < l.toInt by omega) he; omega)
              rw [this] at H; exact H
            · have l00 : l.toInt = 0 := by omega
              have : bl_lt false (a.toInt * e.toInt - c.toInt * b.toInt) = true := decide_eq_true (by
                rw [hx, l00, Int.zero_mul]; have := Int.mul_pos (show 0 < o.toInt by omega) hb; omega)
              rw [this] at H; exact H
          · have w1 := bd_b1 hw
            subst w1
            rw [zo]
            refine ⟨fun h5 => ?_, fun h5 => ?_⟩
            · have l00 : l.toInt = 0 := by omega
              have : bl_lt true (a.toInt * e.toInt - c.toInt * b.toInt) = false := decide_eq_false (by
                rw [hx, l00, Int.zero_mul]; have := Int.mul_pos (show 0 < o.toInt by omega) hb; omega)
              rw [this] at H; exact H
            · have o00 : o.toInt = 0 := by omega
              have : bl_lt true (a.toInt * e.toInt - c.toInt * b.toInt) = true := decide_eq_true (by
                rw [hx, o00, Int.zero_mul]; have := Int.mul_pos (show 0 < l.toInt by omega) he; omega)
              rw [this] at H; exact H
        refine rb_M_isLess_112 ⟨fun h5 => ?_, fun h5 => ⟨fun h6 => ?_, fun h6 => ?_⟩⟩
        · rw [zl] at h5; exact tail (fun z => h5 z.1)
        · rw [zo] at h6; exact tail (fun z => h6 z.2)
        · rw [zl] at h5
          rw [zo] at h6
          have l00 := Classical.not_not.mp h5
          have o00 := Classical.not_not.mp h6
          have hx0 : a.toInt * e.toInt - c.toInt * b.toInt = 0 := by rw [hx, l00, o00, Int.zero_mul, Int.zero_mul]; rfl
          have : bl_lt w (a.toInt * e.toInt - c.toInt * b.toInt) = false := by
            rw [hx0]; cases w <;> rfl
          rw [this] at H; exact H
      refine rb_M_isLess_98 ⟨fun h5 => final (Or.inl (zl.mp h5)) _ _ _ _ _ _ _ _ _ _ _ _, fun h5 => ⟨fun h6 => rb_M_isLess_163 (rb_M_isLess_179 ?_), fun h6 => final (Or.inr (zo.mp (Classical.not_not.mp h6))) _ _ _ _ _ _ _ _ _ _ _ _⟩⟩
      rw [zl] at h5
      rw [zo] at h6
      have go : ∀ (w' : Bool) (z7 z17 z18 z19 z20 z21 z22 z23 z24 : Option Value), w' = !w → br_r (d + 1) 263 17 [z0, z1, z2, z3, z4, z5, z6, z7, some (.long b), none, some (.long l), none, some (.long e), none, some (.long o), none, some (.int (nI w'.toNat)), z17, z18, z19, z20, z21, z22, z23, z24] [] (br_hp n I L) Q := by
        intro w' z7 z17 z18 z19 z20 z21 z22 z23 z24 hw
        refine ih w' b l e o _ _ _ _ _ _ _ _ _ _ _ _ _ _ _ _ (by omega) (by omega) (by omega) (by omega) (by omega) (by omega) (by omega) ?_
        have ex : b.toInt * o.toInt - e.toInt * l.toInt = -(a.toInt * e.toInt - c.toInt * b.toInt) := by
          rw [hx, Int.mul_comm b.toInt, Int.mul_comm e.toInt]; omega
        rw [hw, ex, bl_lt_neg]; exact H
      refine ⟨fun hw => ?_, fun hw => ?_⟩
      · have w1 := bd_b1 hw
        subst w1
        exact go false _ _ _ _ _ _ _ _ _ rfl
      · have w0 := bd_b0 (Classical.not_not.mp hw)
        subst w0
        exact go true _ _ _ _ _ _ _ _ _ rfl
    · have w0 := bd_b0 hw
      subst w0
      rw [br_cmpGE, br_leJ] at h2
      rw [br_cmpE] at h
      have h5 : ¬ q.toInt = q'.toInt := fun z => h (Int64.toInt_inj.mp z)
      have hx := c2 (by omega)
      have : bl_lt false (a.toInt * e.toInt - c.toInt * b.toInt) = false := decide_eq_false (by omega)
      rw [this] at H; exact H
    · have w0 := bd_b0 hw
      subst w0
      rw [br_cmpGE, br_leJ] at h2
      have hx := c1 (by omega)
      have : bl_lt false (a.toInt * e.toInt - c.toInt * b.toInt) = true := decide_eq_true hx
      rw [this] at H; exact H
    · have w1 := bd_b1 hw
      subst w1
      rw [br_cmpGE, br_leJ] at h2
      rw [br_cmpE] at h
      have h5 : ¬ q.toInt = q'.toInt := fun z => h (Int64.toInt_inj.mp z)
      have hx := c1 (by omega)
      have : bl_lt true (a.toInt * e.toInt - c.toInt * b.toInt) = false := decide_eq_false (by omega)
      rw [this] at H; exact H
    · have w1 := bd_b1 hw
      subst w1
      rw [br_cmpGE, br_leJ] at h2
      have hx := c2 (by omega)
      have : bl_lt true (a.toInt * e.toInt - c.toInt * b.toInt) = true := decide_eq_true hx
      rw [this] at H; exact H
theorem rs_M_isLess {a b c e : Int64} {z8 z9 z10 z11 z12 z13 z14 z15 z16 z17 z18 z19 z20 z21 z22 z23 z24 : Option Value} (hb : 0 < b.toInt) (he : 0 < e.toInt) (ha : a.toInt.natAbs < 4611686018427387904) (hc : c.toInt.natAbs < 4611686018427387904) (hb2 : b.toInt < 4611686018427387904) (he2 : e.toInt < 4611686018427387904)
    (H : Q (some (.int (nI (decide (a.toInt * e.toInt - c.toInt * b.toInt < 0)).toNat))) (br_hp n I L)) :
    br_r (d + 1) 263 0 [some (.long a), none, some (.long b), none, some (.long c), none, some (.long e), none, z8, z9, z10, z11, z12, z13, z14, z15, z16, z17, z18, z19, z20, z21, z22, z23, z24] [] (br_hp n I L) Q :=
  rb_M_isLess_0 (rs_M_il (b.toInt.toNat + 1) false a b c e _ _ _ _ _ _ _ _ _ _ _ _ _ _ _ _ (by omega) hb he ha hc hb2 he2 H)
end
