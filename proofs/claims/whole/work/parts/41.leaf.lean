set_option maxRecDepth 100000
set_option maxHeartbeats 4000000
section
variable {d n : Nat} {Q : br_Q} {I : Nat → Nat → Int32} {L : Nat → Nat → Int64}
theorem rs_out_F {x a b : Int32} (h : a.toInt ≤ x.toInt ∧ x.toInt ≤ b.toInt) (H : Q (some (.int (nI 0))) (br_hp n I L)) : br_r d 16 0 [some (.int x), some (.int a), some (.int b)] [] (br_hp n I L) Q := by
  refine rb_A_outside_0 (br_f ?_ (br_t ?_ H))
  · rw [br_ltT]; omega
  · rw [br_leT]; omega
theorem rs_out_T {x a b : Int32} (h : ¬ (a.toInt ≤ x.toInt ∧ x.toInt ≤ b.toInt)) (H : Q (some (.int (nI 1))) (br_hp n I L)) : br_r d 16 0 [some (.int x), some (.int a), some (.int b)] [] (br_hp n I L) Q := by
  refine rb_A_outside_0 (br_c (fun _ => H) (fun z => br_f ?_ H))
  rw [br_leT]; rw [br_ltT] at z; omega
theorem rs_refuse {k : Nat} (hk : k < 8) (H : Q (some (.int (-(nI k)))) (br_hp n (br_u I 82 k (I 82 k + nI 1)) L)) : br_r d 17 0 [some (.ref 8), some (.int (nI k))] [] (br_hp n I L) Q := by
  refine rb_A_refuse_0 (br_f (nI_pos (by omega)) (br_f (nI_ge (a := k) (b := 8) hk (by omega)) ⟨vp_in_nI hk (by omega), vp_in_nI hk (by omega), ?_⟩))
  rw [nI_clamp (by omega)]
  exact H
theorem rs_no {k : Nat} (hk : k < 8) (H : Q (some (.int (-(nI k)))) (br_hp n (br_u I 170 k (I 170 k + nI 1)) L)) : br_r d 193 0 [some (.ref 169), some (.int (-(nI k)))] [] (br_hp n I L) Q := by
  have e : -(-(nI k)) = nI k := Int32.neg_neg
  refine rb_M_no_0 ?_
  rw [e, nI_clamp (by omega)]
  exact ⟨vp_in_nI hk (by omega), vp_in_nI hk (by omega), H⟩
theorem br_cmp0 {x y : Int64} : lg_cmp x y < nI 0 ↔ x < y := lg_cmp_lt _ _
theorem br_cmp1 {x y : Int64} : nI 0 < lg_cmp x y ↔ y < x := lg_cmp_gt _ _
theorem rs_wi_T {x a b : Int64} (h : a.toInt ≤ x.toInt ∧ x.toInt ≤ b.toInt) (H : Q (some (.int (nI 1))) (br_hp n I L)) : br_r d 192 0 [some (.long x), none, some (.long a), none, some (.long b), none] [] (br_hp n I L) Q := by
  refine rb_M_within_0 (br_f ?_ (br_f ?_ H))
  · rw [br_cmp0, Int64.lt_iff_toInt_lt]; omega
  · rw [br_cmp1, Int64.lt_iff_toInt_lt]; omega
theorem rs_wi_F {x a b : Int64} (h : ¬ (a.toInt ≤ x.toInt ∧ x.toInt ≤ b.toInt)) (H : Q (some (.int (nI 0))) (br_hp n I L)) : br_r d 192 0 [some (.long x), none, some (.long a), none, some (.long b), none] [] (br_hp n I L) Q := by
  refine rb_M_within_0 (br_c (fun _ => H) (fun z => br_t ?_ H))
  rw [br_cmp0, Int64.lt_iff_toInt_lt] at z
  rw [br_cmp1, Int64.lt_iff_toInt_lt]; omega
theorem rs_noChild_F {N : Nat} {x : Int32} (hN : I 9 8 = nI N) (h40 : N ≤ 40) (h : 0 ≤ x.toInt ∧ x.toInt < N) (H : Q (some (.int (nI 0))) (br_hp n I L)) : br_r (d + 1) 22 0 [some (.ref 8), some (.int x)] [] (br_hp n I L) Q := by
  refine rb_A_noChild_0 ?_
  rw [hN]
  refine rs_out_F ?_ (rb_A_noChild_14 ⟨Or.inl rfl, H⟩)
  rw [pk_sub_toInt (by omega) (by omega), nI_toInt (by omega)]
  omega
theorem rs_noChild_T {N : Nat} {x : Int32} (hN : I 9 8 = nI N) (h40 : N ≤ 40) (h : ¬ (0 ≤ x.toInt ∧ x.toInt < N)) (H : Q (some (.int (nI 1))) (br_hp n I L)) : br_r (d + 1) 22 0 [some (.ref 8), some (.int x)] [] (br_hp n I L) Q := by
  refine rb_A_noChild_0 ?_
  rw [hN]
  refine rs_out_T ?_ (rb_A_noChild_14 ⟨Or.inr rfl, H⟩)
  rw [pk_sub_toInt (by omega) (by omega), nI_toInt (by omega)]
  omega
theorem rs_noTest_F {x : Int32} (h : 0 ≤ x.toInt ∧ x.toInt < 6) (H : Q (some (.int (nI 0))) (br_hp n I L)) : br_r (d + 1) 82 0 [some (.int x)] [] (br_hp n I L) Q := by
  refine rb_A_noTest_0 (rs_out_F ?_ (rb_A_noTest_6 ⟨Or.inl rfl, H⟩))
  rw [nI_toInt (by omega), nI_toInt (by omega)]
  omega
theorem rs_noTest_T {x : Int32} (h : ¬ (0 ≤ x.toInt ∧ x.toInt < 6)) (H : Q (some (.int (nI 1))) (br_hp n I L)) : br_r (d + 1) 82 0 [some (.int x)] [] (br_hp n I L) Q := by
  refine rb_A_noTest_0 (rs_out_T ?_ (rb_A_noTest_6 ⟨Or.inr rfl, H⟩))
  rw [nI_toInt (by omega), nI_toInt (by omega)]
  omega
theorem rs_isChild_T {N : Nat} {x : Int32} (hN : I 171 666 = nI N) (h40 : N ≤ 40) (h : 0 ≤ x.toInt ∧ x.toInt < N) (H : Q (some (.int (nI 1))) (br_hp n I L)) : br_r d 196 0 [some (.ref 169), some (.int x)] [] (br_hp n I L) Q := by
  refine rb_M_isChild_0 ?_
  rw [hN]
  refine br_f ?_ (br_f ?_ H)
  · rw [br_ltT, nI_toInt (by omega)]; omega
  · rw [br_leT, nI_toInt (by omega)]; omega
theorem rs_isChild_F {N : Nat} {x : Int32} (hN : I 171 666 = nI N) (h40 : N ≤ 40) (h : ¬ (0 ≤ x.toInt ∧ x.toInt < N)) (H : Q (some (.int (nI 0))) (br_hp n I L)) : br_r d 196 0 [some (.ref 169), some (.int x)] [] (br_hp n I L) Q := by
  refine rb_M_isChild_0 ?_
  rw [hN]
  refine br_c (fun _ => H) (fun z => br_t ?_ H)
  rw [br_ltT, nI_toInt (by omega)] at z
  rw [br_leT, nI_toInt (by omega)]; omega
theorem rs_isTest_T {x : Int32} (h : 0 ≤ x.toInt ∧ x.toInt < 6) (H : Q (some (.int (nI 1))) (br_hp n I L)) : br_r d 226 0 [some (.int x)] [] (br_hp n I L) Q := by
  refine rb_M_isTest_0 (br_f ?_ (br_f ?_ H))
  · rw [br_ltT, nI_toInt (by omega)]; omega
  · rw [br_leT, nI_toInt (by omega)]; omega
theorem rs_isTest_F {x : Int32} (h : ¬ (0 ≤ x.toInt ∧ x.toInt < 6)) (H : Q (some (.int (nI 0))) (br_hp n I L)) : br_r d 226 0 [some (.int x)] [] (br_hp n I L) Q := by
  refine rb_M_isTest_0 (br_c (fun _ => H) (fun z => br_t ?_ H))
  rw [br_ltT, nI_toInt (by omega)] at z
  rw [br_leT, nI_toInt (by omega)]; omega
theorem rs_pointOf {c t : Nat} (hc : c < 40) (ht : t < 6) (H : Q (some (.int (I 171 (867 + (40 * t + c))))) (br_hp n I L)) : br_r d 229 0 [some (.ref 169), some (.int (nI c)), some (.int (nI t))] [] (br_hp n I L) Q := by
  refine rb_M_pointOf_0 ?_
  rw [pk_mul, nI_add, nI_add, nI_clamp (by omega), Nat.add_assoc]
  exact ⟨vp_in_nI (by omega) (by omega), H⟩
theorem rs_at_in {r0 k l : Nat} (hS : br_S0 n r0 = (1, l)) (hk : k < l) (hl : l < 2 ^ 31) (H : Q (some (.int (I r0 k))) (br_hp n I L)) : br_r d 26 0 [some (.ref r0), some (.int (nI k))] [] (br_hp n I L) Q := by
  refine rb_A_at_0 ?_
  rw [hS, nI_clamp (by omega)]
  refine br_f (nI_pos (by omega)) ⟨rfl, br_f (nI_ge (a := k) (b := l) hk hl) ⟨rfl, vp_in_nI hk hl, H⟩⟩
theorem br_R17 {t : Nat} (ht : t < 6) : br_R0 17 t = 18 + t := by
  rcases (by omega : t = 0 ∨ t = 1 ∨ t = 2 ∨ t = 3 ∨ t = 4 ∨ t = 5) with rfl | rfl | rfl | rfl | rfl | rfl <;> rfl
theorem br_S17 {t : Nat} (ht : t < 6) : br_S0 n (18 + t) = (1, 40) := by
  rcases (by omega : t = 0 ∨ t = 1 ∨ t = 2 ∨ t = 3 ∨ t = 4 ∨ t = 5) with rfl | rfl | rfl | rfl | rfl | rfl <;> rfl
def br_max (x y : Int32) : Int32 := if x < y then y else x
def br_min (x y : Int32) : Int32 := if y < x then y else x
theorem br_maxT {x y : Int32} : (br_max x y).toInt = max x.toInt y.toInt := by
  unfold br_max
  by_cases h : x < y
  · rw [if_pos h]; rw [br_ltT] at h; omega
  · rw [if_neg h]; rw [br_ltT] at h; omega
theorem br_minT {x y : Int32} : (br_min x y).toInt = min x.toInt y.toInt := by
  unfold br_min
  by_cases h : y < x
  · rw [if_pos h]; rw [br_ltT] at h; omega
  · rw [if_neg h]; rw [br_ltT] at h; omega
theorem br_maxN {a b : Nat} (ha : a < 2 ^ 31) (hb : b < 2 ^ 31) : br_max (nI a) (nI b) = nI (max a b) := by
  apply Int32.toInt_inj.mp
  rw [br_maxT, nI_toInt ha, nI_toInt hb, nI_toInt (by omega)]; omega
theorem br_minN {a b : Nat} (ha : a < 2 ^ 31) (hb : b < 2 ^ 31) : br_min (nI a) (nI b) = nI (min a b) := by
  apply Int32.toInt_inj.mp
  rw [br_minT, nI_toInt ha, nI_toInt hb, nI_toInt (by omega)]; omega
theorem rs_max {x y : Int32} (H : Q (some (.int (br_max x y))) (br_hp n I L)) : br_r d 30 0 [some (.int x), some (.int y)] [] (br_hp n I L) Q := by
  refine rb_Math_max_0 ⟨fun h => ?_, fun h => ?_⟩
  · rw [br_max, if_pos h] at H; exact H
  · rw [br_max, if_neg h] at H; exact H
theorem rs_min {x y : Int32} (H : Q (some (.int (br_min x y))) (br_hp n I L)) : br_r d 42 0 [some (.int x), some (.int y)] [] (br_hp n I L) Q := by
  refine rb_Math_min_II_0 ⟨fun h => ?_, fun h => ?_⟩
  · rw [br_min, if_pos h] at H; exact H
  · rw [br_min, if_neg h] at H; exact H
end
