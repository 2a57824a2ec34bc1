set_option maxRecDepth 100000
set_option maxHeartbeats 4000000
/-! the cells of a world that count -/
def br_alB (q j : Nat) : Bool := decide ((q = 0 ∧ (j = 2 ∨ j = 8 ∨ j = 9)) ∨ ((q = 1 ∨ q = 2) ∧ j < 18) ∨ (3 ≤ q ∧ q ≤ 7 ∧ j < 40) ∨ (9 ≤ q ∧ q ≤ 14 ∧ j < 40) ∨ (q = 15 ∧ j < 6) ∨ (q = 16 ∧ j = 1) ∨ (q = 17 ∧ j < 18) ∨ (q = 19 ∧ j < 4) ∨ (q = 20 ∧ (j = 1 ∨ j = 2)) ∨ (q = 21 ∧ j < 400) ∨ (q = 22 ∧ j = 3) ∨ (23 ≤ q ∧ q ≤ 25 ∧ j < 24) ∨ (q = 26 ∧ j = 3) ∨ (27 ≤ q ∧ q ≤ 29 ∧ j < 40) ∨ (q = 30 ∧ j = 4) ∨ (31 ≤ q ∧ q ≤ 34 ∧ j < 20) ∨ ((q = 35 ∨ q = 37 ∨ q = 39 ∨ q = 41) ∧ j = 1) ∨ ((q = 36 ∨ q = 38 ∨ q = 40 ∨ q = 42) ∧ j < 18))
def br_al (q j : Nat) : Prop := br_alB q j = true
theorem br_rows_al : br_rows.all (fun r => (List.range r.2.2.1).all (fun j => br_alB r.1 (r.2.1 + j))) = true := by decide +kernel
theorem br_W_al {w o w' o' : Nat} {I I' : Nat → Nat → Int32} (h : br_W w o I) (hf : ∀ q j, br_al q j → I' (w' + q) j = I (w + q) j) (hg : ∀ k, k < 1389 → I' 171 (o' + k) = I 171 (o + k)) : br_W w' o' I' := by
  obtain ⟨h1, ⟨N, R, hN, hR, a1, a2, a3, a4, a5⟩, ⟨m, fr, ht, hm, b1, b2, b3, b4, b5, b6⟩⟩ := h
  refine ⟨fun r hr j hj => ?_, ⟨N, R, hN, hR, ?_, ?_, fun c hc => ?_, fun c h6 h7 => ?_, fun i hi => ?_⟩, ⟨m, fr, ht, hm, ?_, b2, ?_, b4, b5, fun r hr => ?_⟩⟩
  · have h2 := List.all_eq_true.mp br_rows_in r hr
    simp only [Bool.and_eq_true, Bool.or_eq_true, Nat.ble_eq] at h2
    obtain ⟨⟨⟨⟨h2, h3⟩, _⟩, _⟩, _⟩ := h2
    have h4 := List.all_eq_true.mp (List.all_eq_true.mp br_rows_al r hr) j (List.mem_range.mpr hj)
    rw [hf _ _ h4, hg _ (by omega)]
    exact h1 r hr j hj
  · rw [hg _ (by omega)]; exact a1
  · rw [hg _ (by omega)]; exact a2
  · obtain ⟨r, hr, e⟩ := a3 c hc
    exact ⟨r, hr, by rw [hg _ (by omega)]; exact e⟩
  · obtain ⟨e1, e2, e3⟩ := a4 c h6 h7
    refine ⟨by rw [hg _ (by omega)]; exact e1, by rw [hg _ (by omega)]; exact e2, fun t ht => ?_⟩
    rw [hg _ (by omega)]; exact e3 t ht
  · rw [hg _ (by omega)]; exact a5 i hi
  · rw [hg _ (by omega)]; exact b1
  · rw [hf _ _ (by unfold br_al br_alB; rw [decide_eq_true_eq]; omega)]; exact b3
  · obtain ⟨e1, e2, e3, e4, e5, e6, e7, e8⟩ := b6 r hr
    have al : ∀ j, j < 400 → br_al 21 j := fun j hj => by unfold br_al br_alB; rw [decide_eq_true_eq]; omega
    refine ⟨e1, e2, ?_, ?_, ?_, e6, e7, fun i hi hi2 => ?_⟩
    · rw [hg _ (by omega)]; exact e3
    · rw [hg _ (by omega)]; exact e4
    · rw [hf _ _ (al _ (by omega))]; exact e5
    · obtain ⟨q0, k, v, q1, q2, q3, q4, q5⟩ := e8 i hi hi2
      refine ⟨q0, k, v, q1, ?_, ?_, ?_, q5⟩
      · rw [hg _ (by omega)]; exact q2
      · rw [hg _ (by omega)]; exact q3
      · rw [hf _ _ (al _ (by omega))]; exact q4
/-- so far copied: the cells of S, from the world at w to that at w' -/
def br_Cp (w' w : Nat) (I : Nat → Nat → Int32) (S : Nat → Nat → Prop) (J : Nat → Nat → Int32) : Prop := (∀ p j, ¬ (w' ≤ p ∧ p ≤ w' + 42) → J p j = I p j) ∧ ∀ q j, q ≤ 42 → S q j → J (w' + q) j = I (w + q) j
theorem br_Cp_0 {w' w : Nat} {I : Nat → Nat → Int32} : br_Cp w' w I (fun _ _ => False) I := ⟨fun _ _ _ => rfl, fun _ _ _ h => h.elim⟩
theorem br_Cp_c {w' w q m a b : Nat} {I J : Nat → Nat → Int32} {S : Nat → Nat → Prop} (h : br_Cp w' w I S J) (hw : w + 42 < w' ∨ w' + 42 < w) (hq : q ≤ 42) (ha : a = w + q) (hb : b = w' + q) : br_Cp w' w I (fun q' j => S q' j ∨ (q' = q ∧ j < m)) (br_cp J a b 0 0 m) := by
  subst ha hb
  refine ⟨fun p j hp => ?_, fun q' j hq' hS => ?_⟩
  · show (if p = w' + q ∧ (0 ≤ j ∧ j < 0 + m) then _ else _) = _
    rw [if_neg (by omega)]; exact h.1 p j hp
  · show (if w' + q' = w' + q ∧ (0 ≤ j ∧ j < 0 + m) then J (w + q) (0 + (j - 0)) else J (w' + q') j) = _
    by_cases h1 : q' = q ∧ j < m
    · rw [if_pos (by omega), Nat.zero_add, Nat.sub_zero, h1.1]
      exact h.1 _ _ (by omega)
    · rw [if_neg (by omega)]
      rcases hS with hS | hS
      · exact h.2 q' j hq' hS
      · exact absurd hS h1
theorem br_Cp_u {w' w q k b : Nat} {I J : Nat → Nat → Int32} {S : Nat → Nat → Prop} {x : Int32} (h : br_Cp w' w I S J) (hq : q ≤ 42) (hb : b = w' + q) (hx : x = I (w + q) k) : br_Cp w' w I (fun q' j => S q' j ∨ (q' = q ∧ j = k)) (br_u J b k x) := by
  subst hb hx
  refine ⟨fun p j hp => ?_, fun q' j hq' hS => ?_⟩
  · rw [br_u_n (by omega)]; exact h.1 p j hp
  · by_cases h1 : q' = q ∧ j = k
    · obtain ⟨rfl, rfl⟩ := h1
      rw [br_u_s]
    · rw [br_u_n (by omega)]
      rcases hS with hS | hS
      · exact h.2 q' j hq' hS
      · exact absurd hS h1
theorem br_Cp_w {w' w : Nat} {I J : Nat → Nat → Int32} {S S' : Nat → Nat → Prop} (h : br_Cp w' w I S J) (hS : ∀ q j, S' q j → S q j) : br_Cp w' w I S' J := ⟨h.1, fun q j hq hs => h.2 q j hq (hS q j hs)⟩
theorem br_lwW {n w : Nat} (hw : w = 9 ∨ w = 83 ∨ w = 126) : br_lw n (w + 16) ∧ ∀ t, t < 4 → br_lw n (w + (35 + 2 * t)) ∧ br_R0 (w + 18) t = w + (35 + 2 * t) := by
  rcases hw with rfl | rfl | rfl
  · refine ⟨⟨rfl, rfl, rfl, by omega⟩, fun t ht => ?_⟩
    rcases (by omega : t = 0 ∨ t = 1 ∨ t = 2 ∨ t = 3) with rfl | rfl | rfl | rfl <;> exact ⟨⟨rfl, rfl, rfl, by omega⟩, rfl⟩
  · refine ⟨⟨rfl, rfl, rfl, by omega⟩, fun t ht => ?_⟩
    rcases (by omega : t = 0 ∨ t = 1 ∨ t = 2 ∨ t = 3) with rfl | rfl | rfl | rfl <;> exact ⟨⟨rfl, rfl, rfl, by omega⟩, rfl⟩
  · refine ⟨⟨rfl, rfl, rfl, by omega⟩, fun t ht => ?_⟩
    rcases (by omega : t = 0 ∨ t = 1 ∨ t = 2 ∨ t = 3) with rfl | rfl | rfl | rfl <;> exact ⟨⟨rfl, rfl, rfl, by omega⟩, rfl⟩
theorem br_ptP {n w : Nat} (hw : w = 9 ∨ w = 83 ∨ w = 126) {t : Nat} (ht : t < 6) : br_R0 (w + 8) t = w + (9 + t) ∧ br_S0 n (w + (9 + t)) = (1, 40) := by
  rcases hw with rfl | rfl | rfl <;> rcases (by omega : t = 0 ∨ t = 1 ∨ t = 2 ∨ t = 3 ∨ t = 4 ∨ t = 5) with rfl | rfl | rfl | rfl | rfl | rfl <;> exact ⟨rfl, rfl⟩
section
variable {d n : Nat} {Q : br_Q} {I : Nat → Nat → Int32} {L : Nat → Nat → Int64}
theorem rs_Law_copy {a b : Nat} (ha : br_lw n a) (hb : br_lw n b) (H : Q none (br_hp n (br_u (br_cp I (b + 1) (a + 1) 0 0 18) a 1 (br_cp I (b + 1) (a + 1) 0 0 18 b 1)) L)) : br_r d 76 0 [some (.ref a), some (.ref b)] [] (br_hp n I L) Q := by
  obtain ⟨a1, a2, a3, a4⟩ := ha
  obtain ⟨b1, b2, b3, b4⟩ := hb
  refine rb_Law_copy_0 ?_
  rw [a1, b1, a2, b2, a3, b3]
  have e : (Int32.ofNat ((1, 18) : Nat × Nat).2).toNatClampNeg = 18 := by decide +kernel
  rw [e]
  exact ⟨rfl, rfl, rfl, rfl, by omega, by omega, by decide +kernel, by omega, by omega, ⟨rfl, rfl⟩, rfl, rfl, H⟩
theorem rs_copy_a {z2 : Option Value} (hk : ∀ t, t < 4 → I (9 + 19) t = nI 0 ∨ I (9 + 19) t = nI 1) (H : ∀ J : Nat → Nat → Int32, (∀ p j, ¬ (83 ≤ p ∧ p ≤ 83 + 42) → J p j = I p j) → (∀ q j, br_al q j → J (83 + q) j = I (9 + q) j) → Q none (br_hp n J L)) :
    br_r (d + 1) 182 0 [some (.ref 83), some (.ref 9), z2] [] (br_hp n I L) Q := by
  have dj : 9 + 42 < 83 ∨ 83 + 42 < 9 := by omega
  have fr : ∀ {S : Nat → Nat → Prop} {J : Nat → Nat → Int32} (h : br_Cp 83 9 I S J) (q k : Nat), q ≤ 42 → J (9 + q) k = I (9 + q) k := fun h q k hq => h.1 _ _ (by omega)
  have c1 := br_Cp_c (m := 18) (br_Cp_0 (w' := 83) (w := 9) (I := I)) dj (q := 1) (a := 10) (b := 84) (by omega) rfl rfl
  have c2 := br_Cp_c (m := 18) c1 dj (q := 2) (a := 11) (b := 85) (by omega) rfl rfl
  have c3 := br_Cp_u (q := 0) (k := 2) (b := 83) c2 (by omega) rfl (fr c2 0 2 (by omega))
  have c4 := br_Cp_c (m := 40) c3 dj (q := 3) (a := 12) (b := 86) (by omega) rfl rfl
  have c5 := br_Cp_c (m := 40) c4 dj (q := 4) (a := 13) (b := 87) (by omega) rfl rfl
  have c6 := br_Cp_c (m := 40) c5 dj (q := 5) (a := 14) (b := 88) (by omega) rfl rfl
  have c7 := br_Cp_c (m := 40) c6 dj (q := 6) (a := 15) (b := 89) (by omega) rfl rfl
  have c8 := br_Cp_c (m := 40) c7 dj (q := 7) (a := 16) (b := 90) (by omega) rfl rfl
  have c9 := br_Cp_u (q := 0) (k := 8) (b := 83) c8 (by omega) rfl (fr c8 0 8 (by omega))
  have c10 := br_Cp_u (q := 0) (k := 9) (b := 83) c9 (by omega) rfl (fr c9 0 9 (by omega))
  refine rb_World_copya_0 (rb_World_copya_15 (rb_World_copya_30 (rb_World_copya_38 (rb_World_copya_53 (rb_World_copya_68 (rb_World_copya_83 (rb_World_copya_98 (rb_World_copya_113 (rb_World_copya_121 (rb_World_copya_129 ?_))))))))))
  clear c1 c2 c3 c4 c5 c6 c7 c8 c9
  -- films, marks, trials and the end
  have tail : ∀ (z : Option Value) (J : Nat → Nat → Int32), br_Cp 83 9 I (fun q j => ((((((((((((((False ∨ (q = 1 ∧ j < 18)) ∨ (q = 2 ∧ j < 18)) ∨ (q = 0 ∧ j = 2)) ∨ (q = 3 ∧ j < 40)) ∨ (q = 4 ∧ j < 40)) ∨ (q = 5 ∧ j < 40)) ∨ (q = 6 ∧ j < 40)) ∨ (q = 7 ∧ j < 40)) ∨ (q = 0 ∧ j = 8)) ∨ (q = 0 ∧ j = 9)) ∨ ∃ u, u < 6 ∧ ((q = 9 + u ∧ j < 40) ∨ (q = 15 ∧ j = u))) ∨ (q = 17 ∧ j < 18)) ∨ (q = 16 ∧ j = 1)) ∨ ∃ u, u < 4 ∧ ((q = 19 ∧ j = u) ∨ (q = 35 + 2 * u ∧ j = 1) ∨ (q = 36 + 2 * u ∧ j < 18)))) J →
      br_r d 77 0 [some (.ref 103), some (.ref 29)] [] (br_hp n J L) (fun v h => br_r (d + 1) 182 236 [some (.ref 83), some (.ref 9), z] (v.toList ++ []) (br_bk h) Q) := by
    intro z J c1
    have e400 : (Int32.ofNat (br_S0 n (br_R0 103 0)).2).toNatClampNeg = 400 := by show (Int32.ofNat 400).toNatClampNeg = 400; decide +kernel
    refine rb_Rules_copy_0 ⟨rfl, rfl, rfl, rfl, by show 8 ≤ 30; omega, by show 8 ≤ 104; omega, by show ¬ Int32.ofNat 400 < 0; decide +kernel, ?_, ?_, ⟨rfl, rfl⟩, rfl, rfl, rfl, rfl, ?_⟩
    · rw [e400]; show 0 + 400 ≤ 400; omega
    · rw [e400]; show 0 + 400 ≤ 400; omega
    rw [e400]
    have c2 := br_Cp_c (m := 400) c1 dj (q := 21) (a := 30) (b := 104) (by omega) rfl rfl
    have c3 := br_Cp_u (q := 20) (k := 1) (b := 103) c2 (by omega) rfl (fr c2 20 1 (by omega))
    have c4 := br_Cp_u (q := 20) (k := 2) (b := 103) c3 (by omega) rfl (fr c3 20 2 (by omega))
    have c5 := br_Cp_u (q := 22) (k := 3) (b := 105) c4 (by omega) rfl (fr c4 22 3 (by omega))
    have c6 := br_Cp_c (m := 24) c5 dj (q := 23) (a := 32) (b := 106) (by omega) rfl rfl
    have c7 := br_Cp_c (m := 24) c6 dj (q := 24) (a := 33) (b := 107) (by omega) rfl rfl
    have c8 := br_Cp_c (m := 24) c7 dj (q := 25) (a := 34) (b := 108) (by omega) rfl rfl
    have c9 := br_Cp_u (q := 26) (k := 3) (b := 109) c8 (by omega) rfl (fr c8 26 3 (by omega))
    have c10 := br_Cp_c (m := 40) c9 dj (q := 27) (a := 36) (b := 110) (by omega) rfl rfl
    have c11 := br_Cp_c (m := 40) c10 dj (q := 28) (a := 37) (b := 111) (by omega) rfl rfl
    have c12 := br_Cp_c (m := 40) c11 dj (q := 29) (a := 38) (b := 112) (by omega) rfl rfl
    have c13 := br_Cp_u (q := 30) (k := 4) (b := 113) c12 (by omega) rfl (fr c12 30 4 (by omega))
    have c14 := br_Cp_c (m := 20) c13 dj (q := 31) (a := 40) (b := 114) (by omega) rfl rfl
    have c15 := br_Cp_c (m := 20) c14 dj (q := 32) (a := 41) (b := 115) (by omega) rfl rfl
    have c16 := br_Cp_c (m := 20) c15 dj (q := 33) (a := 42) (b := 116) (by omega) rfl rfl
    have c17 := br_Cp_c (m := 20) c16 dj (q := 34) (a := 43) (b := 117) (by omega) rfl rfl
    refine rb_World_copya_236 (rb_Films_copya_0 (rb_Films_copya_8 (rb_Films_copya_23 (rb_Films_copya_38 (rb_Films_copya_53 (rb_World_copya_247 (rb_Marks_copya_0 (rb_Marks_copya_8 (rb_Marks_copya_23 (rb_Marks_copya_38 (rb_Marks_copya_53 (rb_World_copya_258 (rb_Trials_copya_0 (rb_Trials_copya_8 (rb_Trials_copya_23 (rb_Trials_copya_38 (rb_Trials_copya_53 (rb_Trials_copya_68 (rb_World_copya_269 ?_)))))))))))))))))))
    refine H _ c17.1 (fun q j hq => c17.2 q j ?_ ?_)
    · unfold br_al br_alB at hq; rw [decide_eq_true_eq] at hq; omega
    · unfold br_al br_alB at hq
      rw [decide_eq_true_eq] at hq
      rcases hq with ⟨rfl, rfl | rfl | rfl⟩ | ⟨rfl | rfl, h⟩ | ⟨h1, h2, h⟩ | ⟨h1, h2, h⟩ | ⟨rfl, h⟩ | ⟨rfl, rfl⟩ | ⟨rfl, h⟩ | ⟨rfl, h⟩ | ⟨rfl, rfl | rfl⟩ | ⟨rfl, h⟩ | ⟨rfl, rfl⟩ | ⟨h1, h2, h⟩ | ⟨rfl, rfl⟩ | ⟨h1, h2, h⟩ | ⟨rfl, rfl⟩ | ⟨h1, h2, h⟩ | ⟨rfl | rfl | rfl | rfl, rfl⟩ | ⟨rfl | rfl | rfl | rfl, h⟩
      · exact Or.inl (Or.inl (Or.inl (Or.inl (Or.inl (Or.inl (Or.inl (Or.inl (Or.inl (Or.inl (Or.inl (Or.inl (Or.inl (Or.inl (Or.inl (Or.inl (Or.inl (Or.inl (Or.inl (Or.inl (Or.inl (Or.inl (Or.inl (Or.inl (Or.inl (Or.inl (Or.inl (Or.inr ⟨rfl, rfl⟩)))))))))))))))))))))))))))
      · exact Or.inl (Or.inl (Or.inl (Or.inl (Or.inl (Or.inl (Or.inl (Or.inl (Or.inl (Or.inl (Or.inl (Or.inl (Or.inl (Or.inl (Or.inl (Or.inl (Or.inl (Or.inl (Or.inl (Or.inl (Or.inl (Or.inr ⟨rfl, rfl⟩)))))))))))))))))))))
      · exact Or.inl (Or.inl (Or.inl (Or.inl (Or.inl (Or.inl (Or.inl (Or.inl (Or.inl (Or.inl (Or.inl (Or.inl (Or.inl (Or.inl (Or.inl (Or.inl (Or.inl (Or.inl (Or.inl (Or.inl (Or.inr ⟨rfl, rfl⟩))))))))))))))))))))
      · exact Or.inl (Or.inl (Or.inl (Or.inl (Or.inl (Or.inl (Or.inl (Or.inl (Or.inl (Or.inl (Or.inl (Or.inl (Or.inl (Or.inl (Or.inl (Or.inl (Or.inl (Or.inl (Or.inl (Or.inl (Or.inl (Or.inl (Or.inl (Or.inl (Or.inl (Or.inl (Or.inl (Or.inl (Or.inl (Or.inr ⟨rfl, h⟩)))))))))))))))))))))))))))))
      · exact Or.inl (Or.inl (Or.inl (Or.inl (Or.inl (Or.inl (Or.inl (Or.inl (Or.inl (Or.inl (Or.inl (Or.inl (Or.inl (Or.inl (Or.inl (Or.inl (Or.inl (Or.inl (Or.inl (Or.inl (Or.inl (Or.inl (Or.inl (Or.inl (Or.inl (Or.inl (Or.inl (Or.inl (Or.inr ⟨rfl, h⟩))))))))))))))))))))))))))))
      · rcases (by omega : q = 3 ∨ q = 4 ∨ q = 5 ∨ q = 6 ∨ q = 7) with rfl | rfl | rfl | rfl | rfl
        · exact Or.inl (Or.inl (Or.inl (Or.inl (Or.inl (Or.inl (Or.inl (Or.inl (Or.inl (Or.inl (Or.inl (Or.inl (Or.inl (Or.inl (Or.inl (Or.inl (Or.inl (Or.inl (Or.inl (Or.inl (Or.inl (Or.inl (Or.inl (Or.inl (Or.inl (Or.inl (Or.inr ⟨rfl, h⟩))))))))))))))))))))))))))
        · exact Or.inl (Or.inl (Or.inl (Or.inl (Or.inl (Or.inl (Or.inl (Or.inl (Or.inl (Or.inl (Or.inl (Or.inl (Or.inl (Or.inl (Or.inl (Or.inl (Or.inl (Or.inl (Or.inl (Or.inl (Or.inl (Or.inl (Or.inl (Or.inl (Or.inl (Or.inr ⟨rfl, h⟩)))))))))))))))))))))))))
        · exact Or.inl (Or.inl (Or.inl (Or.inl (Or.inl (Or.inl (Or.inl (Or.inl (Or.inl (Or.inl (Or.inl (Or.inl (Or.inl (Or.inl (Or.inl (Or.inl (Or.inl (Or.inl (Or.inl (Or.inl (Or.inl (Or.inl (Or.inl (Or.inl (Or.inr ⟨rfl, h⟩))))))))))))))))))))))))
        · exact Or.inl (Or.inl (Or.inl (Or.inl (Or.inl (Or.inl (Or.inl (Or.inl (Or.inl (Or.inl (Or.inl (Or.inl (Or.inl (Or.inl (Or.inl (Or.inl (Or.inl (Or.inl (Or.inl (Or.inl (Or.inl (Or.inl (Or.inl (Or.inr ⟨rfl, h⟩)))))))))))))))))))))))
        · exact Or.inl (Or.inl (Or.inl (Or.inl (Or.inl (Or.inl (Or.inl (Or.inl (Or.inl (Or.inl (Or.inl (Or.inl (Or.inl (Or.inl (Or.inl (Or.inl (Or.inl (Or.inl (Or.inl (Or.inl (Or.inl (Or.inl (Or.inr ⟨rfl, h⟩))))))))))))))))))))))
      · exact Or.inl (Or.inl (Or.inl (Or.inl (Or.inl (Or.inl (Or.inl (Or.inl (Or.inl (Or.inl (Or.inl (Or.inl (Or.inl (Or.inl (Or.inl (Or.inl (Or.inl (Or.inl (Or.inl (Or.inr ⟨q - 9, by omega, Or.inl ⟨by omega, h⟩⟩)))))))))))))))))))
      · exact Or.inl (Or.inl (Or.inl (Or.inl (Or.inl (Or.inl (Or.inl (Or.inl (Or.inl (Or.inl (Or.inl (Or.inl (Or.inl (Or.inl (Or.inl (Or.inl (Or.inl (Or.inl (Or.inl (Or.inr ⟨j, h, Or.inr ⟨rfl, rfl⟩⟩)))))))))))))))))))
      · exact Or.inl (Or.inl (Or.inl (Or.inl (Or.inl (Or.inl (Or.inl (Or.inl (Or.inl (Or.inl (Or.inl (Or.inl (Or.inl (Or.inl (Or.inl (Or.inl (Or.inl (Or.inr ⟨rfl, rfl⟩)))))))))))))))))
      · exact Or.inl (Or.inl (Or.inl (Or.inl (Or.inl (Or.inl (Or.inl (Or.inl (Or.inl (Or.inl (Or.inl (Or.inl (Or.inl (Or.inl (Or.inl (Or.inl (Or.inl (Or.inl (Or.inr ⟨rfl, h⟩))))))))))))))))))
      · exact Or.inl (Or.inl (Or.inl (Or.inl (Or.inl (Or.inl (Or.inl (Or.inl (Or.inl (Or.inl (Or.inl (Or.inl (Or.inl (Or.inl (Or.inl (Or.inl (Or.inr ⟨j, h, Or.inl ⟨rfl, rfl⟩⟩))))))))))))))))
      · exact Or.inl (Or.inl (Or.inl (Or.inl (Or.inl (Or.inl (Or.inl (Or.inl (Or.inl (Or.inl (Or.inl (Or.inl (Or.inl (Or.inl (Or.inr ⟨rfl, rfl⟩))))))))))))))
      · exact Or.inl (Or.inl (Or.inl (Or.inl (Or.inl (Or.inl (Or.inl (Or.inl (Or.inl (Or.inl (Or.inl (Or.inl (Or.inl (Or.inr ⟨rfl, rfl⟩)))))))))))))
      · exact Or.inl (Or.inl (Or.inl (Or.inl (Or.inl (Or.inl (Or.inl (Or.inl (Or.inl (Or.inl (Or.inl (Or.inl (Or.inl (Or.inl (Or.inl (Or.inr ⟨rfl, h⟩)))))))))))))))
      · exact Or.inl (Or.inl (Or.inl (Or.inl (Or.inl (Or.inl (Or.inl (Or.inl (Or.inl (Or.inl (Or.inl (Or.inl (Or.inr ⟨rfl, rfl⟩))))))))))))
      · rcases (by omega : q = 23 ∨ q = 24 ∨ q = 25) with rfl | rfl | rfl
        · exact Or.inl (Or.inl (Or.inl (Or.inl (Or.inl (Or.inl (Or.inl (Or.inl (Or.inl (Or.inl (Or.inl (Or.inr ⟨rfl, h⟩)))))))))))
        · exact Or.inl (Or.inl (Or.inl (Or.inl (Or.inl (Or.inl (Or.inl (Or.inl (Or.inl (Or.inl (Or.inr ⟨rfl, h⟩))))))))))
        · exact Or.inl (Or.inl (Or.inl (Or.inl (Or.inl (Or.inl (Or.inl (Or.inl (Or.inl (Or.inr ⟨rfl, h⟩)))))))))
      · exact Or.inl (Or.inl (Or.inl (Or.inl (Or.inl (Or.inl (Or.inl (Or.inl (Or.inr ⟨rfl, rfl⟩))))))))
      · rcases (by omega : q = 27 ∨ q = 28 ∨ q = 29) with rfl | rfl | rfl
        · exact Or.inl (Or.inl (Or.inl (Or.inl (Or.inl (Or.inl (Or.inl (Or.inr ⟨rfl, h⟩)))))))
        · exact Or.inl (Or.inl (Or.inl (Or.inl (Or.inl (Or.inl (Or.inr ⟨rfl, h⟩))))))
        · exact Or.inl (Or.inl (Or.inl (Or.inl (Or.inl (Or.inr ⟨rfl, h⟩)))))
      · exact Or.inl (Or.inl (Or.inl (Or.inl (Or.inr ⟨rfl, rfl⟩))))
      · rcases (by omega : q = 31 ∨ q = 32 ∨ q = 33 ∨ q = 34) with rfl | rfl | rfl | rfl
        · exact Or.inl (Or.inl (Or.inl (Or.inr ⟨rfl, h⟩)))
        · exact Or.inl (Or.inl (Or.inr ⟨rfl, h⟩))
        · exact Or.inl (Or.inr ⟨rfl, h⟩)
        · exact Or.inr ⟨rfl, h⟩
      · exact Or.inl (Or.inl (Or.inl (Or.inl (Or.inl (Or.inl (Or.inl (Or.inl (Or.inl (Or.inl (Or.inl (Or.inl (Or.inl (Or.inl (Or.inl (Or.inl (Or.inr ⟨0, by omega, Or.inr (Or.inl ⟨rfl, rfl⟩)⟩))))))))))))))))
      · exact Or.inl (Or.inl (Or.inl (Or.inl (Or.inl (Or.inl (Or.inl (Or.inl (Or.inl (Or.inl (Or.inl (Or.inl (Or.inl (Or.inl (Or.inl (Or.inl (Or.inr ⟨1, by omega, Or.inr (Or.inl ⟨rfl, rfl⟩)⟩))))))))))))))))
      · exact Or.inl (Or.inl (Or.inl (Or.inl (Or.inl (Or.inl (Or.inl (Or.inl (Or.inl (Or.inl (Or.inl (Or.inl (Or.inl (Or.inl (Or.inl (Or.inl (Or.inr ⟨2, by omega, Or.inr (Or.inl ⟨rfl, rfl⟩)⟩))))))))))))))))
      · exact Or.inl (Or.inl (Or.inl (Or.inl (Or.inl (Or.inl (Or.inl (Or.inl (Or.inl (Or.inl (Or.inl (Or.inl (Or.inl (Or.inl (Or.inl (Or.inl (Or.inr ⟨3, by omega, Or.inr (Or.inl ⟨rfl, rfl⟩)⟩))))))))))))))))
      · exact Or.inl (Or.inl (Or.inl (Or.inl (Or.inl (Or.inl (Or.inl (Or.inl (Or.inl (Or.inl (Or.inl (Or.inl (Or.inl (Or.inl (Or.inl (Or.inl (Or.inr ⟨0, by omega, Or.inr (Or.inr ⟨rfl, h⟩)⟩))))))))))))))))
      · exact Or.inl (Or.inl (Or.inl (Or.inl (Or.inl (Or.inl (Or.inl (Or.inl (Or.inl (Or.inl (Or.inl (Or.inl (Or.inl (Or.inl (Or.inl (Or.inl (Or.inr ⟨1, by omega, Or.inr (Or.inr ⟨rfl, h⟩)⟩))))))))))))))))
      · exact Or.inl (Or.inl (Or.inl (Or.inl (Or.inl (Or.inl (Or.inl (Or.inl (Or.inl (Or.inl (Or.inl (Or.inl (Or.inl (Or.inl (Or.inl (Or.inl (Or.inr ⟨2, by omega, Or.inr (Or.inr ⟨rfl, h⟩)⟩))))))))))))))))
      · exact Or.inl (Or.inl (Or.inl (Or.inl (Or.inl (Or.inl (Or.inl (Or.inl (Or.inl (Or.inl (Or.inl (Or.inl (Or.inl (Or.inl (Or.inl (Or.inl (Or.inr ⟨3, by omega, Or.inr (Or.inr ⟨rfl, h⟩)⟩))))))))))))))))
  have kept : ∀ k t (J : Nat → Nat → Int32), t + k = 4 → br_Cp 83 9 I (fun q j => ((((((((((((((False ∨ (q = 1 ∧ j < 18)) ∨ (q = 2 ∧ j < 18)) ∨ (q = 0 ∧ j = 2)) ∨ (q = 3 ∧ j < 40)) ∨ (q = 4 ∧ j < 40)) ∨ (q = 5 ∧ j < 40)) ∨ (q = 6 ∧ j < 40)) ∨ (q = 7 ∧ j < 40)) ∨ (q = 0 ∧ j = 8)) ∨ (q = 0 ∧ j = 9)) ∨ ∃ u, u < 6 ∧ ((q = 9 + u ∧ j < 40) ∨ (q = 15 ∧ j = u))) ∨ (q = 17 ∧ j < 18)) ∨ (q = 16 ∧ j = 1)) ∨ ∃ u, u < t ∧ ((q = 19 ∧ j = u) ∨ (q = 35 + 2 * u ∧ j = 1) ∨ (q = 36 + 2 * u ∧ j < 18)))) J →
      br_r (d + 1) 182 187 [some (.ref 83), some (.ref 9), some (.int (nI t))] [] (br_hp n J L) Q := by
    intro k
    induction k with
    | zero =>
      intro t J ht c1
      have : t = 4 := by omega
      subst this
      exact rb_World_copya_187 (br_t (nI_le (Nat.le_refl 4) (by omega)) (tail _ J c1))
    | succ k ih =>
      intro t J ht c1
      obtain ⟨lA, rA⟩ := (br_lwW (n := n) (w := 83) (Or.inr (Or.inl rfl))).2 t (by omega)
      obtain ⟨lB, rB⟩ := (br_lwW (n := n) (w := 9) (Or.inl rfl)).2 t (by omega)
      have rA' : br_R0 101 t = 83 + (35 + 2 * t) := rA
      have rB' : br_R0 27 t = 9 + (35 + 2 * t) := rB
      have c2 := br_Cp_c (m := 18) c1 dj (q := 36 + 2 * t) (a := 9 + (35 + 2 * t) + 1) (b := 83 + (35 + 2 * t) + 1) (by omega) (by omega) (by omega)
      have c3 := br_Cp_u (q := 35 + 2 * t) (k := 1) (b := 83 + (35 + 2 * t)) c2 (by omega) (by omega) (fr c2 (35 + 2 * t) 1 (by omega))
      have c4 := br_Cp_u (q := 19) (k := t) (b := 102) c3 (by omega) rfl (fr c3 19 t (by omega))
      refine rb_World_copya_187 (br_f (nI_ge (b := 4) (by omega) (by omega)) ?_)
      rw [nI_clamp (by omega), rA', rB']
      refine ⟨vp_in_nI (by omega) (by omega), vp_in_nI (by omega) (by omega), lA.1, rs_Law_copy lA lB (rb_World_copya_207 ?_)⟩
      rw [nI_clamp (by omega), nI_add]
      have e1 := fr c3 19 t (by omega)
      have e2 : ∀ x : Int32, x = I (9 + 19) t → vp_nar .boolean x = x := fun x hx => br_01 (by rw [hx]; exact hk t (by omega))
      rw [e2 _ e1]
      refine ⟨vp_in_nI (by omega) (by omega), vp_in_nI (by omega) (by omega), ih (t + 1) _ (by omega) (br_Cp_w c4 (fun q j h => ?_))⟩
      rcases h with h | ⟨u, hu, h⟩
      · exact Or.inl (Or.inl (Or.inl (Or.inl h)))
      · by_cases e : u = t
        · subst e
          rcases h with h | h | h
          · exact Or.inr h
          · exact Or.inl (Or.inr h)
          · exact Or.inl (Or.inl (Or.inr h))
        · exact Or.inl (Or.inl (Or.inl (Or.inr ⟨u, by omega, h⟩)))
  have pts : ∀ k t (J : Nat → Nat → Int32), t + k = 6 → br_Cp 83 9 I (fun q j => (((((((((((False ∨ (q = 1 ∧ j < 18)) ∨ (q = 2 ∧ j < 18)) ∨ (q = 0 ∧ j = 2)) ∨ (q = 3 ∧ j < 40)) ∨ (q = 4 ∧ j < 40)) ∨ (q = 5 ∧ j < 40)) ∨ (q = 6 ∧ j < 40)) ∨ (q = 7 ∧ j < 40)) ∨ (q = 0 ∧ j = 8)) ∨ (q = 0 ∧ j = 9)) ∨ ∃ u, u < t ∧ ((q = 9 + u ∧ j < 40) ∨ (q = 15 ∧ j = u)))) J →
      br_r (d + 1) 182 131 [some (.ref 83), some (.ref 9), some (.int (nI t))] [] (br_hp n J L) Q := by
    intro k
    induction k with
    | zero =>
      intro t J ht c1
      have : t = 6 := by omega
      subst this
      have c2 := br_Cp_c (m := 18) c1 dj (q := 17) (a := 9 + 16 + 1) (b := 83 + 16 + 1) (by omega) rfl rfl
      have c3 := br_Cp_u (q := 16) (k := 1) (b := 83 + 16) c2 (by omega) rfl (fr c2 16 1 (by omega))
      refine rb_World_copya_131 (br_t (nI_le (Nat.le_refl 6) (by omega)) (rs_Law_copy (br_lwW (n := n) (w := 83) (Or.inr (Or.inl rfl))).1 (br_lwW (n := n) (w := 9) (Or.inl rfl)).1 (rb_World_copya_185 ?_)))
      exact kept 4 0 _ (by omega) (br_Cp_w c3 (fun q j h => h.elim id (fun z => by obtain ⟨u, hu, _⟩ := z; omega)))
    | succ k ih =>
      intro t J ht c1
      obtain ⟨pA, sA⟩ := br_ptP (n := n) (w := 83) (Or.inr (Or.inl rfl)) (t := t) (by omega)
      obtain ⟨pB, sB⟩ := br_ptP (n := n) (w := 9) (Or.inl rfl) (t := t) (by omega)
      have pA' : br_R0 91 t = 83 + (9 + t) := pA
      have pB' : br_R0 17 t = 9 + (9 + t) := pB
      have c2 := br_Cp_c (m := 40) c1 dj (q := 9 + t) (a := 9 + (9 + t)) (b := 83 + (9 + t)) (by omega) rfl rfl
      have c3 := br_Cp_u (q := 15) (k := t) (b := 98) c2 (by omega) rfl (fr c2 15 t (by omega))
      refine rb_World_copya_131 (br_f (nI_ge (b := 6) (by omega) (by omega)) ?_)
      rw [nI_clamp (by omega), pA', pB', sA, sB]
      refine ⟨vp_in_nI (by omega) (by omega), vp_in_nI (by omega) (by omega), by omega, by omega, by omega, by omega, ⟨rfl, rfl⟩, rb_World_copya_156 ?_⟩
      rw [nI_clamp (by omega), nI_add]
      refine ⟨vp_in_nI (by omega) (by omega), vp_in_nI (by omega) (by omega), ih (t + 1) _ (by omega) (br_Cp_w c3 (fun q j h => ?_))⟩
      rcases h with h | ⟨u, hu, h⟩
      · exact Or.inl (Or.inl (Or.inl h))
      · by_cases e : u = t
        · subst e
          rcases h with h | h
          · exact Or.inl (Or.inr h)
          · exact Or.inr h
        · exact Or.inl (Or.inl (Or.inr ⟨u, by omega, h⟩))
  exact pts 6 0 _ (by omega) (br_Cp_w c10 (fun q j h => h.elim id (fun z => by obtain ⟨u, hu, _⟩ := z; omega)))
theorem rs_copy_b {z2 : Option Value} (hk : ∀ t, t < 4 → I (9 + 19) t = nI 0 ∨ I (9 + 19) t = nI 1) (H : ∀ J : Nat → Nat → Int32, (∀ p j, ¬ (126 ≤ p ∧ p ≤ 126 + 42) → J p j = I p j) → (∀ q j, br_al q j → J (126 + q) j = I (9 + q) j) → Q none (br_hp n J L)) :
    br_r (d + 1) 182 0 [some (.ref 126), some (.ref 9), z2] [] (br_hp n I L) Q := by
  have dj : 9 + 42 < 126 ∨ 126 + 42 < 9 := by omega
  have fr : ∀ {S : Nat → Nat → Prop} {J : Nat → Nat → Int32} (h : br_Cp 126 9 I S J) (q k : Nat), q ≤ 42 → J (9 + q) k = I (9 + q) k := fun h q k hq => h.1 _ _ (by omega)
  have c1 := br_Cp_c (m := 18) (br_Cp_0 (w' := 126) (w := 9) (I := I)) dj (q := 1) (a := 10) (b := 127) (by omega) rfl rfl
  have c2 := br_Cp_c (m := 18) c1 dj (q := 2) (a := 11) (b := 128) (by omega) rfl rfl
  have c3 := br_Cp_u (q := 0) (k := 2) (b := 126) c2 (by omega) rfl (fr c2 0 2 (by omega))
  have c4 := br_Cp_c (m := 40) c3 dj (q := 3) (a := 12) (b := 129) (by omega) rfl rfl
  have c5 := br_Cp_c (m := 40) c4 dj (q := 4) (a := 13) (b := 130) (by omega) rfl rfl
  have c6 := br_Cp_c (m := 40) c5 dj (q := 5) (a := 14) (b := 131) (by omega) rfl rfl
  have c7 := br_Cp_c (m := 40) c6 dj (q := 6) (a := 15) (b := 132) (by omega) rfl rfl
  have c8 := br_Cp_c (m := 40) c7 dj (q := 7) (a := 16) (b := 133) (by omega) rfl rfl
  have c9 := br_Cp_u (q := 0) (k := 8) (b := 126) c8 (by omega) rfl (fr c8 0 8 (by omega))
  have c10 := br_Cp_u (q := 0) (k := 9) (b := 126) c9 (by omega) rfl (fr c9 0 9 (by omega))
  refine rb_World_copyb_0 (rb_World_copyb_15 (rb_World_copyb_30 (rb_World_copyb_38 (rb_World_copyb_53 (rb_World_copyb_68 (rb_World_copyb_83 (rb_World_copyb_98 (rb_World_copyb_113 (rb_World_copyb_121 (rb_World_copyb_129 ?_))))))))))
  clear c1 c2 c3 c4 c5 c6 c7 c8 c9
  -- films, marks, trials and the end
  have tail : ∀ (z : Option Value) (J : Nat → Nat → Int32), br_Cp 126 9 I (fun q j => ((((((((((((((False ∨ (q = 1 ∧ j < 18)) ∨ (q = 2 ∧ j < 18)) ∨ (q = 0 ∧ j = 2)) ∨ (q = 3 ∧ j < 40)) ∨ (q = 4 ∧ j < 40)) ∨ (q = 5 ∧ j < 40)) ∨ (q = 6 ∧ j < 40)) ∨ (q = 7 ∧ j < 40)) ∨ (q = 0 ∧ j = 8)) ∨ (q = 0 ∧ j = 9)) ∨ ∃ u, u < 6 ∧ ((q = 9 + u ∧ j < 40) ∨ (q = 15 ∧ j = u))) ∨ (q = 17 ∧ j < 18)) ∨ (q = 16 ∧ j = 1)) ∨ ∃ u, u < 4 ∧ ((q = 19 ∧ j = u) ∨ (q = 35 + 2 * u ∧ j = 1) ∨ (q = 36 + 2 * u ∧ j < 18)))) J →
      br_r d 77 0 [some (.ref 146), some (.ref 29)] [] (br_hp n J L) (fun v h => br_r (d + 1) 182 236 [some (.ref 126), some (.ref 9), z] (v.toList ++ []) (br_bk h) Q) := by
    intro z J c1
    have e400 : (Int32.ofNat (br_S0 n (br_R0 146 0)).2).toNatClampNeg = 400 := by show (Int32.ofNat 400).toNatClampNeg = 400; decide +kernel
    refine rb_Rules_copy_0 ⟨rfl, rfl, rfl, rfl, by show 8 ≤ 30; omega, by show 8 ≤ 147; omega, by show ¬ Int32.ofNat 400 < 0; decide +kernel, ?_, ?_, ⟨rfl, rfl⟩, rfl, rfl, rfl, rfl, ?_⟩
    · rw [e400]; show 0 + 400 ≤ 400; omega
    · rw [e400]; show 0 + 400 ≤ 400; omega
    rw [e400]
    have c2 := br_Cp_c (m := 400) c1 dj (q := 21) (a := 30) (b := 147) (by omega) rfl rfl
    have c3 := br_Cp_u (q := 20) (k := 1) (b := 146) c2 (by omega) rfl (fr c2 20 1 (by omega))
    have c4 := br_Cp_u (q := 20) (k := 2) (b := 146) c3 (by omega) rfl (fr c3 20 2 (by omega))
    have c5 := br_Cp_u (q := 22) (k := 3) (b := 148) c4 (by omega) rfl (fr c4 22 3 (by omega))
    have c6 := br_Cp_c (m := 24) c5 dj (q := 23) (a := 32) (b := 149) (by omega) rfl rfl
    have c7 := br_Cp_c (m := 24) c6 dj (q := 24) (a := 33) (b := 150) (by omega) rfl rfl
    have c8 := br_Cp_c (m := 24) c7 dj (q := 25) (a := 34) (b := 151) (by omega) rfl rfl
    have c9 := br_Cp_u (q := 26) (k := 3) (b := 152) c8 (by omega) rfl (fr c8 26 3 (by omega))
    have c10 := br_Cp_c (m := 40) c9 dj (q := 27) (a := 36) (b := 153) (by omega) rfl rfl
    have c11 := br_Cp_c (m := 40) c10 dj (q := 28) (a := 37) (b := 154) (by omega) rfl rfl
    have c12 := br_Cp_c (m := 40) c11 dj (q := 29) (a := 38) (b := 155) (by omega) rfl rfl
    have c13 := br_Cp_u (q := 30) (k := 4) (b := 156) c12 (by omega) rfl (fr c12 30 4 (by omega))
    have c14 := br_Cp_c (m := 20) c13 dj (q := 31) (a := 40) (b := 157) (by omega) rfl rfl
    have c15 := br_Cp_c (m := 20) c14 dj (q := 32) (a := 41) (b := 158) (by omega) rfl rfl
    have c16 := br_Cp_c (m := 20) c15 dj (q := 33) (a := 42) (b := 159) (by omega) rfl rfl
    have c17 := br_Cp_c (m := 20) c16 dj (q := 34) (a := 43) (b := 160) (by omega) rfl rfl
    refine rb_World_copyb_236 (rb_Films_copyb_0 (rb_Films_copyb_8 (rb_Films_copyb_23 (rb_Films_copyb_38 (rb_Films_copyb_53 (rb_World_copyb_247 (rb_Marks_copyb_0 (rb_Marks_copyb_8 (rb_Marks_copyb_23 (rb_Marks_copyb_38 (rb_Marks_copyb_53 (rb_World_copyb_258 (rb_Trials_copyb_0 (rb_Trials_copyb_8 (rb_Trials_copyb_23 (rb_Trials_copyb_38 (rb_Trials_copyb_53 (rb_Trials_copyb_68 (rb_World_copyb_269 ?_)))))))))))))))))))
    refine H _ c17.1 (fun q j hq => c17.2 q j ?_ ?_)
    · unfold br_al br_alB at hq; rw [decide_eq_true_eq] at hq; omega
    · unfold br_al br_alB at hq
      rw [decide_eq_true_eq] at hq
      rcases hq with ⟨rfl, rfl | rfl | rfl⟩ | ⟨rfl | rfl, h⟩ | ⟨h1, h2, h⟩ | ⟨h1, h2, h⟩ | ⟨rfl, h⟩ | ⟨rfl, rfl⟩ | ⟨rfl, h⟩ | ⟨rfl, h⟩ | ⟨rfl, rfl | rfl⟩ | ⟨rfl, h⟩ | ⟨rfl, rfl⟩ | ⟨h1, h2, h⟩ | ⟨rfl, rfl⟩ | ⟨h1, h2, h⟩ | ⟨rfl, rfl⟩ | ⟨h1, h2, h⟩ | ⟨rfl | rfl | rfl | rfl, rfl⟩ | ⟨rfl | rfl | rfl | rfl, h⟩
      · exact Or.inl (Or.inl (Or.inl (Or.inl (Or.inl (Or.inl (Or.inl (Or.inl (Or.inl (Or.inl (Or.inl (Or.inl (Or.inl (Or.inl (Or.inl (Or.inl (Or.inl (Or.inl (Or.inl (Or.inl (Or.inl (Or.inl (Or.inl (Or.inl (Or.inl (Or.inl (Or.inl (Or.inr ⟨rfl, rfl⟩)))))))))))))))))))))))))))
      · exact Or.inl (Or.inl (Or.inl (Or.inl (Or.inl (Or.inl (Or.inl (Or.inl (Or.inl (Or.inl (Or.inl (Or.inl (Or.inl (Or.inl (Or.inl (Or.inl (Or.inl (Or.inl (Or.inl (Or.inl (Or.inl (Or.inr ⟨rfl, rfl⟩)))))))))))))))))))))
      · exact Or.inl (Or.inl (Or.inl (Or.inl (Or.inl (Or.inl (Or.inl (Or.inl (Or.inl (Or.inl (Or.inl (Or.inl (Or.inl (Or.inl (Or.inl (Or.inl (Or.inl (Or.inl (Or.inl (Or.inl (Or.inr ⟨rfl, rfl⟩))))))))))))))))))))
      · exact Or.inl (Or.inl (Or.inl (Or.inl (Or.inl (Or.inl (Or.inl (Or.inl (Or.inl (Or.inl (Or.inl (Or.inl (Or.inl (Or.inl (Or.inl (Or.inl (Or.inl (Or.inl (Or.inl (Or.inl (Or.inl (Or.inl (Or.inl (Or.inl (Or.inl (Or.inl (Or.inl (Or.inl (Or.inl (Or.inr ⟨rfl, h⟩)))))))))))))))))))))))))))))
      · exact Or.inl (Or.inl (Or.inl (Or.inl (Or.inl (Or.inl (Or.inl (Or.inl (Or.inl (Or.inl (Or.inl (Or.inl (Or.inl (Or.inl (Or.inl (Or.inl (Or.inl (Or.inl (Or.inl (Or.inl (Or.inl (Or.inl (Or.inl (Or.inl (Or.inl (Or.inl (Or.inl (Or.inl (Or.inr ⟨rfl, h⟩))))))))))))))))))))))))))))
      · rcases (by omega : q = 3 ∨ q = 4 ∨ q = 5 ∨ q = 6 ∨ q = 7) with rfl | rfl | rfl | rfl | rfl
        · exact Or.inl (Or.inl (Or.inl (Or.inl (Or.inl (Or.inl (Or.inl (Or.inl (Or.inl (Or.inl (Or.inl (Or.inl (Or.inl (Or.inl (Or.inl (Or.inl (Or.inl (Or.inl (Or.inl (Or.inl (Or.inl (Or.inl (Or.inl (Or.inl (Or.inl (Or.inl (Or.inr ⟨rfl, h⟩))))))))))))))))))))))))))
        · exact Or.inl (Or.inl (Or.inl (Or.inl (Or.inl (Or.inl (Or.inl (Or.inl (Or.inl (Or.inl (Or.inl (Or.inl (Or.inl (Or.inl (Or.inl (Or.inl (Or.inl (Or.inl (Or.inl (Or.inl (Or.inl (Or.inl (Or.inl (Or.inl (Or.inl (Or.inr ⟨rfl, h⟩)))))))))))))))))))))))))
        · exact Or.inl (Or.inl (Or.inl (Or.inl (Or.inl (Or.inl (Or.inl (Or.inl (Or.inl (Or.inl (Or.inl (Or.inl (Or.inl (Or.inl (Or.inl (Or.inl (Or.inl (Or.inl (Or.inl (Or.inl (Or.inl (Or.inl (Or.inl (Or.inl (Or.inr ⟨rfl, h⟩))))))))))))))))))))))))
        · exact Or.inl (Or.inl (Or.inl (Or.inl (Or.inl (Or.inl (Or.inl (Or.inl (Or.inl (Or.inl (Or.inl (Or.inl (Or.inl (Or.inl (Or.inl (Or.inl (Or.inl (Or.inl (Or.inl (Or.inl (Or.inl (Or.inl (Or.inl (Or.inr ⟨rfl, h⟩)))))))))))))))))))))))
        · exact Or.inl (Or.inl (Or.inl (Or.inl (Or.inl (Or.inl (Or.inl (Or.inl (Or.inl (Or.inl (Or.inl (Or.inl (Or.inl (Or.inl (Or.inl (Or.inl (Or.inl (Or.inl (Or.inl (Or.inl (Or.inl (Or.inl (Or.inr ⟨rfl, h⟩))))))))))))))))))))))
      · exact Or.inl (Or.inl (Or.inl (Or.inl (Or.inl (Or.inl (Or.inl (Or.inl (Or.inl (Or.inl (Or.inl (Or.inl (Or.inl (Or.inl (Or.inl (Or.inl (Or.inl (Or.inl (Or.inl (Or.inr ⟨q - 9, by omega, Or.inl ⟨by omega, h⟩⟩)))))))))))))))))))
      · exact Or.inl (Or.inl (Or.inl (Or.inl (Or.inl (Or.inl (Or.inl (Or.inl (Or.inl (Or.inl (Or.inl (Or.inl (Or.inl (Or.inl (Or.inl (Or.inl (Or.inl (Or.inl (Or.inl (Or.inr ⟨j, h, Or.inr ⟨rfl, rfl⟩⟩)))))))))))))))))))
      · exact Or.inl (Or.inl (Or.inl (Or.inl (Or.inl (Or.inl (Or.inl (Or.inl (Or.inl (Or.inl (Or.inl (Or.inl (Or.inl (Or.inl (Or.inl (Or.inl (Or.inl (Or.inr ⟨rfl, rfl⟩)))))))))))))))))
      · exact Or.inl (Or.inl (Or.inl (Or.inl (Or.inl (Or.inl (Or.inl (Or.inl (Or.inl (Or.inl (Or.inl (Or.inl (Or.inl (Or.inl (Or.inl (Or.inl (Or.inl (Or.inl (Or.inr ⟨rfl, h⟩))))))))))))))))))
      · exact Or.inl (Or.inl (Or.inl (Or.inl (Or.inl (Or.inl (Or.inl (Or.inl (Or.inl (Or.inl (Or.inl (Or.inl (Or.inl (Or.inl (Or.inl (Or.inl (Or.inr ⟨j, h, Or.inl ⟨rfl, rfl⟩⟩))))))))))))))))
      · exact Or.inl (Or.inl (Or.inl (Or.inl (Or.inl (Or.inl (Or.inl (Or.inl (Or.inl (Or.inl (Or.inl (Or.inl (Or.inl (Or.inl (Or.inr ⟨rfl, rfl⟩))))))))))))))
      · exact Or.inl (Or.inl (Or.inl (Or.inl (Or.inl (Or.inl (Or.inl (Or.inl (Or.inl (Or.inl (Or.inl (Or.inl (Or.inl (Or.inr ⟨rfl, rfl⟩)))))))))))))
      · exact Or.inl (Or.inl (Or.inl (Or.inl (Or.inl (Or.inl (Or.inl (Or.inl (Or.inl (Or.inl (Or.inl (Or.inl (Or.inl (Or.inl (Or.inl (Or.inr ⟨rfl, h⟩)))))))))))))))
      · exact Or.inl (Or.inl (Or.inl (Or.inl (Or.inl (Or.inl (Or.inl (Or.inl (Or.inl (Or.inl (Or.inl (Or.inl (Or.inr ⟨rfl, rfl⟩))))))))))))
      · rcases (by omega : q = 23 ∨ q = 24 ∨ q = 25) with rfl | rfl | rfl
        · exact Or.inl (Or.inl (Or.inl (Or.inl (Or.inl (Or.inl (Or.inl (Or.inl (Or.inl (Or.inl (Or.inl (Or.inr ⟨rfl, h⟩)))))))))))
        · exact Or.inl (Or.inl (Or.inl (Or.inl (Or.inl (Or.inl (Or.inl (Or.inl (Or.inl (Or.inl (Or.inr ⟨rfl, h⟩))))))))))
        · exact Or.inl (Or.inl (Or.inl (Or.inl (Or.inl (Or.inl (Or.inl (Or.inl (Or.inl (Or.inr ⟨rfl, h⟩)))))))))
      · exact Or.inl (Or.inl (Or.inl (Or.inl (Or.inl (Or.inl (Or.inl (Or.inl (Or.inr ⟨rfl, rfl⟩))))))))
      · rcases (by omega : q = 27 ∨ q = 28 ∨ q = 29) with rfl | rfl | rfl
        · exact Or.inl (Or.inl (Or.inl (Or.inl (Or.inl (Or.inl (Or.inl (Or.inr ⟨rfl, h⟩)))))))
        · exact Or.inl (Or.inl (Or.inl (Or.inl (Or.inl (Or.inl (Or.inr ⟨rfl, h⟩))))))
        · exact Or.inl (Or.inl (Or.inl (Or.inl (Or.inl (Or.inr ⟨rfl, h⟩)))))
      · exact Or.inl (Or.inl (Or.inl (Or.inl (Or.inr ⟨rfl, rfl⟩))))
      · rcases (by omega : q = 31 ∨ q = 32 ∨ q = 33 ∨ q = 34) with rfl | rfl | rfl | rfl
        · exact Or.inl (Or.inl (Or.inl (Or.inr ⟨rfl, h⟩)))
        · exact Or.inl (Or.inl (Or.inr ⟨rfl, h⟩))
        · exact Or.inl (Or.inr ⟨rfl, h⟩)
        · exact Or.inr ⟨rfl, h⟩
      · exact Or.inl (Or.inl (Or.inl (Or.inl (Or.inl (Or.inl (Or.inl (Or.inl (Or.inl (Or.inl (Or.inl (Or.inl (Or.inl (Or.inl (Or.inl (Or.inl (Or.inr ⟨0, by omega, Or.inr (Or.inl ⟨rfl, rfl⟩)⟩))))))))))))))))
      · exact Or.inl (Or.inl (Or.inl (Or.inl (Or.inl (Or.inl (Or.inl (Or.inl (Or.inl (Or.inl (Or.inl (Or.inl (Or.inl (Or.inl (Or.inl (Or.inl (Or.inr ⟨1, by omega, Or.inr (Or.inl ⟨rfl, rfl⟩)⟩))))))))))))))))
      · exact Or.inl (Or.inl (Or.inl (Or.inl (Or.inl (Or.inl (Or.inl (Or.inl (Or.inl (Or.inl (Or.inl (Or.inl (Or.inl (Or.inl (Or.inl (Or.inl (Or.inr ⟨2, by omega, Or.inr (Or.inl ⟨rfl, rfl⟩)⟩))))))))))))))))
      · exact Or.inl (Or.inl (Or.inl (Or.inl (Or.inl (Or.inl (Or.inl (Or.inl (Or.inl (Or.inl (Or.inl (Or.inl (Or.inl (Or.inl (Or.inl (Or.inl (Or.inr ⟨3, by omega, Or.inr (Or.inl ⟨rfl, rfl⟩)⟩))))))))))))))))
      · exact Or.inl (Or.inl (Or.inl (Or.inl (Or.inl (Or.inl (Or.inl (Or.inl (Or.inl (Or.inl (Or.inl (Or.inl (Or.inl (Or.inl (Or.inl (Or.inl (Or.inr ⟨0, by omega, Or.inr (Or.inr ⟨rfl, h⟩)⟩))))))))))))))))
      · exact Or.inl (Or.inl (Or.inl (Or.inl (Or.inl (Or.inl (Or.inl (Or.inl (Or.inl (Or.inl (Or.inl (Or.inl (Or.inl (Or.inl (Or.inl (Or.inl (Or.inr ⟨1, by omega, Or.inr (Or.inr ⟨rfl, h⟩)⟩))))))))))))))))
      · exact Or.inl (Or.inl (Or.inl (Or.inl (Or.inl (Or.inl (Or.inl (Or.inl (Or.inl (Or.inl (Or.inl (Or.inl (Or.inl (Or.inl (Or.inl (Or.inl (Or.inr ⟨2, by omega, Or.inr (Or.inr ⟨rfl, h⟩)⟩))))))))))))))))
      · exact Or.inl (Or.inl (Or.inl (Or.inl (Or.inl (Or.inl (Or.inl (Or.inl (Or.inl (Or.inl (Or.inl (Or.inl (Or.inl (Or.inl (Or.inl (Or.inl (Or.inr ⟨3, by omega, Or.inr (Or.inr ⟨rfl, h⟩)⟩))))))))))))))))
  have kept : ∀ k t (J : Nat → Nat → Int32), t + k = 4 → br_Cp 126 9 I (fun q j => ((((((((((((((False ∨ (q = 1 ∧ j < 18)) ∨ (q = 2 ∧ j < 18)) ∨ (q = 0 ∧ j = 2)) ∨ (q = 3 ∧ j < 40)) ∨ (q = 4 ∧ j < 40)) ∨ (q = 5 ∧ j < 40)) ∨ (q = 6 ∧ j < 40)) ∨ (q = 7 ∧ j < 40)) ∨ (q = 0 ∧ j = 8)) ∨ (q = 0 ∧ j = 9)) ∨ ∃ u, u < 6 ∧ ((q = 9 + u ∧ j < 40) ∨ (q = 15 ∧ j = u))) ∨ (q = 17 ∧ j < 18)) ∨ (q = 16 ∧ j = 1)) ∨ ∃ u, u < t ∧ ((q = 19 ∧ j = u) ∨ (q = 35 + 2 * u ∧ j = 1) ∨ (q = 36 + 2 * u ∧ j < 18)))) J →
      br_r (d + 1) 182 187 [some (.ref 126), some (.ref 9), some (.int (nI t))] [] (br_hp n J L) Q := by
    intro k
    induction k with
    | zero =>
      intro t J ht c1
      have : t = 4 := by omega
      subst this
      exact rb_World_copyb_187 (br_t (nI_le (Nat.le_refl 4) (by omega)) (tail _ J c1))
    | succ k ih =>
      intro t J ht c1
      obtain ⟨lA, rA⟩ := (br_lwW (n := n) (w := 126) (Or.inr (Or.inr rfl))).2 t (by omega)
      obtain ⟨lB, rB⟩ := (br_lwW (n := n) (w := 9) (Or.inl rfl)).2 t (by omega)
      have rA' : br_R0 144 t = 126 + (35 + 2 * t) := rA
      have rB' : br_R0 27 t = 9 + (35 + 2 * t) := rB
      have c2 := br_Cp_c (m := 18) c1 dj (q := 36 + 2 * t) (a := 9 + (35 + 2 * t) + 1) (b := 126 + (35 + 2 * t) + 1) (by omega) (by omega) (by omega)
      have c3 := br_Cp_u (q := 35 + 2 * t) (k := 1) (b := 126 + (35 + 2 * t)) c2 (by omega) (by omega) (fr c2 (35 + 2 * t) 1 (by omega))
      have c4 := br_Cp_u (q := 19) (k := t) (b := 145) c3 (by omega) rfl (fr c3 19 t (by omega))
      refine rb_World_copyb_187 (br_f (nI_ge (b := 4) (by omega) (by omega)) ?_)
      rw [nI_clamp (by omega), rA', rB']
      refine ⟨vp_in_nI (by omega) (by omega), vp_in_nI (by omega) (by omega), lA.1, rs_Law_copy lA lB (rb_World_copyb_207 ?_)⟩
      rw [nI_clamp (by omega), nI_add]
      have e1 := fr c3 19 t (by omega)
      have e2 : ∀ x : Int32, x = I (9 + 19) t → vp_nar .boolean x = x := fun x hx => br_01 (by rw [hx]; exact hk t (by omega))
      rw [e2 _ e1]
      refine ⟨vp_in_nI (by omega) (by omega), vp_in_nI (by omega) (by omega), ih (t + 1) _ (by omega) (br_Cp_w c4 (fun q j h => ?_))⟩
      rcases h with h | ⟨u, hu, h⟩
      · exact Or.inl (Or.inl (Or.inl (Or.inl h)))
      · by_cases e : u = t
        · subst e
          rcases h with h | h | h
          · exact Or.inr h
          · exact Or.inl (Or.inr h)
          · exact Or.inl (Or.inl (Or.inr h))
        · exact Or.inl (Or.inl (Or.inl (Or.inr ⟨u, by omega, h⟩)))
  have pts : ∀ k t (J : Nat → Nat → Int32), t + k = 6 → br_Cp 126 9 I (fun q j => (((((((((((False ∨ (q = 1 ∧ j < 18)) ∨ (q = 2 ∧ j < 18)) ∨ (q = 0 ∧ j = 2)) ∨ (q = 3 ∧ j < 40)) ∨ (q = 4 ∧ j < 40)) ∨ (q = 5 ∧ j < 40)) ∨ (q = 6 ∧ j < 40)) ∨ (q = 7 ∧ j < 40)) ∨ (q = 0 ∧ j = 8)) ∨ (q = 0 ∧ j = 9)) ∨ ∃ u, u < t ∧ ((q = 9 + u ∧ j < 40) ∨ (q = 15 ∧ j = u)))) J →
      br_r (d + 1) 182 131 [some (.ref 126), some (.ref 9), some (.int (nI t))] [] (br_hp n J L) Q := by
    intro k
    induction k with
    | zero =>
      intro t J ht c1
      have : t = 6 := by omega
      subst this
      have c2 := br_Cp_c (m := 18) c1 dj (q := 17) (a := 9 + 16 + 1) (b := 126 + 16 + 1) (by omega) rfl rfl
      have c3 := br_Cp_u (q := 16) (k := 1) (b := 126 + 16) c2 (by omega) rfl (fr c2 16 1 (by omega))
      refine rb_World_copyb_131 (br_t (nI_le (Nat.le_refl 6) (by omega)) (rs_Law_copy (br_lwW (n := n) (w := 126) (Or.inr (Or.inr rfl))).1 (br_lwW (n := n) (w := 9) (Or.inl rfl)).1 (rb_World_copyb_185 ?_)))
      exact kept 4 0 _ (by omega) (br_Cp_w c3 (fun q j h => h.elim id (fun z => by obtain ⟨u, hu, _⟩ := z; omega)))
    | succ k ih =>
      intro t J ht c1
      obtain ⟨pA, sA⟩ := br_ptP (n := n) (w := 126) (Or.inr (Or.inr rfl)) (t := t) (by omega)
      obtain ⟨pB, sB⟩ := br_ptP (n := n) (w := 9) (Or.inl rfl) (t := t) (by omega)
      have pA' : br_R0 134 t = 126 + (9 + t) := pA
      have pB' : br_R0 17 t = 9 + (9 + t) := pB
      have c2 := br_Cp_c (m := 40) c1 dj (q := 9 + t) (a := 9 + (9 + t)) (b := 126 + (9 + t)) (by omega) rfl rfl
      have c3 := br_Cp_u (q := 15) (k := t) (b := 141) c2 (by omega) rfl (fr c2 15 t (by omega))
      refine rb_World_copyb_131 (br_f (nI_ge (b := 6) (by omega) (by omega)) ?_)
      rw [nI_clamp (by omega), pA', pB', sA, sB]
      refine ⟨vp_in_nI (by omega) (by omega), vp_in_nI (by omega) (by omega), by omega, by omega, by omega, by omega, ⟨rfl, rfl⟩, rb_World_copyb_156 ?_⟩
      rw [nI_clamp (by omega), nI_add]
      refine ⟨vp_in_nI (by omega) (by omega), vp_in_nI (by omega) (by omega), ih (t + 1) _ (by omega) (br_Cp_w c3 (fun q j h => ?_))⟩
      rcases h with h | ⟨u, hu, h⟩
      · exact Or.inl (Or.inl (Or.inl h))
      · by_cases e : u = t
        · subst e
          rcases h with h | h
          · exact Or.inl (Or.inr h)
          · exact Or.inr h
        · exact Or.inl (Or.inl (Or.inr ⟨u, by omega, h⟩))
  exact pts 6 0 _ (by omega) (br_Cp_w c10 (fun q j h => h.elim id (fun z => by obtain ⟨u, hu, _⟩ := z; omega)))
theorem rs_copy_c {z2 : Option Value} (hk : ∀ t, t < 4 → I (83 + 19) t = nI 0 ∨ I (83 + 19) t = nI 1) (H : ∀ J : Nat → Nat → Int32, (∀ p j, ¬ (9 ≤ p ∧ p ≤ 9 + 42) → J p j = I p j) → (∀ q j, br_al q j → J (9 + q) j = I (83 + q) j) → Q none (br_hp n J L)) :
    br_r (d + 1) 182 0 [some (.ref 9), some (.ref 83), z2] [] (br_hp n I L) Q := by
  have dj : 83 + 42 < 9 ∨ 9 + 42 < 83 := by omega
  have fr : ∀ {S : Nat → Nat → Prop} {J : Nat → Nat → Int32} (h : br_Cp 9 83 I S J) (q k : Nat), q ≤ 42 → J (83 + q) k = I (83 + q) k := fun h q k hq => h.1 _ _ (by omega)
  have c1 := br_Cp_c (m := 18) (br_Cp_0 (w' := 9) (w := 83) (I := I)) dj (q := 1) (a := 84) (b := 10) (by omega) rfl rfl
  have c2 := br_Cp_c (m := 18) c1 dj (q := 2) (a := 85) (b := 11) (by omega) rfl rfl
  have c3 := br_Cp_u (q := 0) (k := 2) (b := 9) c2 (by omega) rfl (fr c2 0 2 (by omega))
  have c4 := br_Cp_c (m := 40) c3 dj (q := 3) (a := 86) (b := 12) (by omega) rfl rfl
  have c5 := br_Cp_c (m := 40) c4 dj (q := 4) (a := 87) (b := 13) (by omega) rfl rfl
  have c6 := br_Cp_c (m := 40) c5 dj (q := 5) (a := 88) (b := 14) (by omega) rfl rfl
  have c7 := br_Cp_c (m := 40) c6 dj (q := 6) (a := 89) (b := 15) (by omega) rfl rfl
  have c8 := br_Cp_c (m := 40) c7 dj (q := 7) (a := 90) (b := 16) (by omega) rfl rfl
  have c9 := br_Cp_u (q := 0) (k := 8) (b := 9) c8 (by omega) rfl (fr c8 0 8 (by omega))
  have c10 := br_Cp_u (q := 0) (k := 9) (b := 9) c9 (by omega) rfl (fr c9 0 9 (by omega))
  refine rb_World_copyc_0 (rb_World_copyc_15 (rb_World_copyc_30 (rb_World_copyc_38 (rb_World_copyc_53 (rb_World_copyc_68 (rb_World_copyc_83 (rb_World_copyc_98 (rb_World_copyc_113 (rb_World_copyc_121 (rb_World_copyc_129 ?_))))))))))
  clear c1 c2 c3 c4 c5 c6 c7 c8 c9
  -- films, marks, trials and the end
  have tail : ∀ (z : Option Value) (J : Nat → Nat → Int32), br_Cp 9 83 I (fun q j => ((((((((((((((False ∨ (q = 1 ∧ j < 18)) ∨ (q = 2 ∧ j < 18)) ∨ (q = 0 ∧ j = 2)) ∨ (q = 3 ∧ j < 40)) ∨ (q = 4 ∧ j < 40)) ∨ (q = 5 ∧ j < 40)) ∨ (q = 6 ∧ j < 40)) ∨ (q = 7 ∧ j < 40)) ∨ (q = 0 ∧ j = 8)) ∨ (q = 0 ∧ j = 9)) ∨ ∃ u, u < 6 ∧ ((q = 9 + u ∧ j < 40) ∨ (q = 15 ∧ j = u))) ∨ (q = 17 ∧ j < 18)) ∨ (q = 16 ∧ j = 1)) ∨ ∃ u, u < 4 ∧ ((q = 19 ∧ j = u) ∨ (q = 35 + 2 * u ∧ j = 1) ∨ (q = 36 + 2 * u ∧ j < 18)))) J →
      br_r d 77 0 [some (.ref 29), some (.ref 103)] [] (br_hp n J L) (fun v h => br_r (d + 1) 182 236 [some (.ref 9), some (.ref 83), z] (v.toList ++ []) (br_bk h) Q) := by
    intro z J c1
    have e400 : (Int32.ofNat (br_S0 n (br_R0 29 0)).2).toNatClampNeg = 400 := by show (Int32.ofNat 400).toNatClampNeg = 400; decide +kernel
    refine rb_Rules_copy_0 ⟨rfl, rfl, rfl, rfl, by show 8 ≤ 104; omega, by show 8 ≤ 30; omega, by show ¬ Int32.ofNat 400 < 0; decide +kernel, ?_, ?_, ⟨rfl, rfl⟩, rfl, rfl, rfl, rfl, ?_⟩
    · rw [e400]; show 0 + 400 ≤ 400; omega
    · rw [e400]; show 0 + 400 ≤ 400; omega
    rw [e400]
    have c2 := br_Cp_c (m := 400) c1 dj (q := 21) (a := 104) (b := 30) (by omega) rfl rfl
    have c3 := br_Cp_u (q := 20) (k := 1) (b := 29) c2 (by omega) rfl (fr c2 20 1 (by omega))
    have c4 := br_Cp_u (q := 20) (k := 2) (b := 29) c3 (by omega) rfl (fr c3 20 2 (by omega))
    have c5 := br_Cp_u (q := 22) (k := 3) (b := 31) c4 (by omega) rfl (fr c4 22 3 (by omega))
    have c6 := br_Cp_c (m := 24) c5 dj (q := 23) (a := 106) (b := 32) (by omega) rfl rfl
    have c7 := br_Cp_c (m := 24) c6 dj (q := 24) (a := 107) (b := 33) (by omega) rfl rfl
    have c8 := br_Cp_c (m := 24) c7 dj (q := 25) (a := 108) (b := 34) (by omega) rfl rfl
    have c9 := br_Cp_u (q := 26) (k := 3) (b := 35) c8 (by omega) rfl (fr c8 26 3 (by omega))
    have c10 := br_Cp_c (m := 40) c9 dj (q := 27) (a := 110) (b := 36) (by omega) rfl rfl
    have c11 := br_Cp_c (m := 40) c10 dj (q := 28) (a := 111) (b := 37) (by omega) rfl rfl
    have c12 := br_Cp_c (m := 40) c11 dj (q := 29) (a := 112) (b := 38) (by omega) rfl rfl
    have c13 := br_Cp_u (q := 30) (k := 4) (b := 39) c12 (by omega) rfl (fr c12 30 4 (by omega))
    have c14 := br_Cp_c (m := 20) c13 dj (q := 31) (a := 114) (b := 40) (by omega) rfl rfl
    have c15 := br_Cp_c (m := 20) c14 dj (q := 32) (a := 115) (b := 41) (by omega) rfl rfl
    have c16 := br_Cp_c (m := 20) c15 dj (q := 33) (a := 116) (b := 42) (by omega) rfl rfl
    have c17 := br_Cp_c (m := 20) c16 dj (q := 34) (a := 117) (b := 43) (by omega) rfl rfl
    refine rb_World_copyc_236 (rb_Films_copyc_0 (rb_Films_copyc_8 (rb_Films_copyc_23 (rb_Films_copyc_38 (rb_Films_copyc_53 (rb_World_copyc_247 (rb_Marks_copyc_0 (rb_Marks_copyc_8 (rb_Marks_copyc_23 (rb_Marks_copyc_38 (rb_Marks_copyc_53 (rb_World_copyc_258 (rb_Trials_copyc_0 (rb_Trials_copyc_8 (rb_Trials_copyc_23 (rb_Trials_copyc_38 (rb_Trials_copyc_53 (rb_Trials_copyc_68 (rb_World_copyc_269 ?_)))))))))))))))))))
    refine H _ c17.1 (fun q j hq => c17.2 q j ?_ ?_)
    · unfold br_al br_alB at hq; rw [decide_eq_true_eq] at hq; omega
    · unfold br_al br_alB at hq
      rw [decide_eq_true_eq] at hq
      rcases hq with ⟨rfl, rfl | rfl | rfl⟩ | ⟨rfl | rfl, h⟩ | ⟨h1, h2, h⟩ | ⟨h1, h2, h⟩ | ⟨rfl, h⟩ | ⟨rfl, rfl⟩ | ⟨rfl, h⟩ | ⟨rfl, h⟩ | ⟨rfl, rfl | rfl⟩ | ⟨rfl, h⟩ | ⟨rfl, rfl⟩ | ⟨h1, h2, h⟩ | ⟨rfl, rfl⟩ | ⟨h1, h2, h⟩ | ⟨rfl, rfl⟩ | ⟨h1, h2, h⟩ | ⟨rfl | rfl | rfl | rfl, rfl⟩ | ⟨rfl | rfl | rfl | rfl, h⟩
      · exact Or.inl (Or.inl (Or.inl (Or.inl (Or.inl (Or.inl (Or.inl (Or.inl (Or.inl (Or.inl (Or.inl (Or.inl (Or.inl (Or.inl (Or.inl (Or.inl (Or.inl (Or.inl (Or.inl (Or.inl (Or.inl (Or.inl (Or.inl (Or.inl (Or.inl (Or.inl (Or.inl (Or.inr ⟨rfl, rfl⟩)))))))))))))))))))))))))))
      · exact Or.inl (Or.inl (Or.inl (Or.inl (Or.inl (Or.inl (Or.inl (Or.inl (Or.inl (Or.inl (Or.inl (Or.inl (Or.inl (Or.inl (Or.inl (Or.inl (Or.inl (Or.inl (Or.inl (Or.inl (Or.inl (Or.inr ⟨rfl, rfl⟩)))))))))))))))))))))
      · exact Or.inl (Or.inl (Or.inl (Or.inl (Or.inl (Or.inl (Or.inl (Or.inl (Or.inl (Or.inl (Or.inl (Or.inl (Or.inl (Or.inl (Or.inl (Or.inl (Or.inl (Or.inl (Or.inl (Or.inl (Or.inr ⟨rfl, rfl⟩))))))))))))))))))))
      · exact Or.inl (Or.inl (Or.inl (Or.inl (Or.inl (Or.inl (Or.inl (Or.inl (Or.inl (Or.inl (Or.inl (Or.inl (Or.inl (Or.inl (Or.inl (Or.inl (Or.inl (Or.inl (Or.inl (Or.inl (Or.inl (Or.inl (Or.inl (Or.inl (Or.inl (Or.inl (Or.inl (Or.inl (Or.inl (Or.inr ⟨rfl, h⟩)))))))))))))))))))))))))))))
      · exact Or.inl (Or.inl (Or.inl (Or.inl (Or.inl (Or.inl (Or.inl (Or.inl (Or.inl (Or.inl (Or.inl (Or.inl (Or.inl (Or.inl (Or.inl (Or.inl (Or.inl (Or.inl (Or.inl (Or.inl (Or.inl (Or.inl (Or.inl (Or.inl (Or.inl (Or.inl (Or.inl (Or.inl (Or.inr ⟨rfl, h⟩))))))))))))))))))))))))))))
      · rcases (by omega : q = 3 ∨ q = 4 ∨ q = 5 ∨ q = 6 ∨ q = 7) with rfl | rfl | rfl | rfl | rfl
        · exact Or.inl (Or.inl (Or.inl (Or.inl (Or.inl (Or.inl (Or.inl (Or.inl (Or.inl (Or.inl (Or.inl (Or.inl (Or.inl (Or.inl (Or.inl (Or.inl (Or.inl (Or.inl (Or.inl (Or.inl (Or.inl (Or.inl (Or.inl (Or.inl (Or.inl (Or.inl (Or.inr ⟨rfl, h⟩))))))))))))))))))))))))))
        · exact Or.inl (Or.inl (Or.inl (Or.inl (Or.inl (Or.inl (Or.inl (Or.inl (Or.inl (Or.inl (Or.inl (Or.inl (Or.inl (Or.inl (Or.inl (Or.inl (Or.inl (Or.inl (Or.inl (Or.inl (Or.inl (Or.inl (Or.inl (Or.inl (Or.inl (Or.inr ⟨rfl, h⟩)))))))))))))))))))))))))
        · exact Or.inl (Or.inl (Or.inl (Or.inl (Or.inl (Or.inl (Or.inl (Or.inl (Or.inl (Or.inl (Or.inl (Or.inl (Or.inl (Or.inl (Or.inl (Or.inl (Or.inl (Or.inl (Or.inl (Or.inl (Or.inl (Or.inl (Or.inl (Or.inl (Or.inr ⟨rfl, h⟩))))))))))))))))))))))))
        · exact Or.inl (Or.inl (Or.inl (Or.inl (Or.inl (Or.inl (Or.inl (Or.inl (Or.inl (Or.inl (Or.inl (Or.inl (Or.inl (Or.inl (Or.inl (Or.inl (Or.inl (Or.inl (Or.inl (Or.inl (Or.inl (Or.inl (Or.inl (Or.inr ⟨rfl, h⟩)))))))))))))))))))))))
        · exact Or.inl (Or.inl (Or.inl (Or.inl (Or.inl (Or.inl (Or.inl (Or.inl (Or.inl (Or.inl (Or.inl (Or.inl (Or.inl (Or.inl (Or.inl (Or.inl (Or.inl (Or.inl (Or.inl (Or.inl (Or.inl (Or.inl (Or.inr ⟨rfl, h⟩))))))))))))))))))))))
      · exact Or.inl (Or.inl (Or.inl (Or.inl (Or.inl (Or.inl (Or.inl (Or.inl (Or.inl (Or.inl (Or.inl (Or.inl (Or.inl (Or.inl (Or.inl (Or.inl (Or.inl (Or.inl (Or.inl (Or.inr ⟨q - 9, by omega, Or.inl ⟨by omega, h⟩⟩)))))))))))))))))))
      · exact Or.inl (Or.inl (Or.inl (Or.inl (Or.inl (Or.inl (Or.inl (Or.inl (Or.inl (Or.inl (Or.inl (Or.inl (Or.inl (Or.inl (Or.inl (Or.inl (Or.inl (Or.inl (Or.inl (Or.inr ⟨j, h, Or.inr ⟨rfl, rfl⟩⟩)))))))))))))))))))
      · exact Or.inl (Or.inl (Or.inl (Or.inl (Or.inl (Or.inl (Or.inl (Or.inl (Or.inl (Or.inl (Or.inl (Or.inl (Or.inl (Or.inl (Or.inl (Or.inl (Or.inl (Or.inr ⟨rfl, rfl⟩)))))))))))))))))
      · exact Or.inl (Or.inl (Or.inl (Or.inl (Or.inl (Or.inl (Or.inl (Or.inl (Or.inl (Or.inl (Or.inl (Or.inl (Or.inl (Or.inl (Or.inl (Or.inl (Or.inl (Or.inl (Or.inr ⟨rfl, h⟩))))))))))))))))))
      · exact Or.inl (Or.inl (Or.inl (Or.inl (Or.inl (Or.inl (Or.inl (Or.inl (Or.inl (Or.inl (Or.inl (Or.inl (Or.inl (Or.inl (Or.inl (Or.inl (Or.inr ⟨j, h, Or.inl ⟨rfl, rfl⟩⟩))))))))))))))))
      · exact Or.inl (Or.inl (Or.inl (Or.inl (Or.inl (Or.inl (Or.inl (Or.inl (Or.inl (Or.inl (Or.inl (Or.inl (Or.inl (Or.inl (Or.inr ⟨rfl, rfl⟩))))))))))))))
      · exact Or.inl (Or.inl (Or.inl (Or.inl (Or.inl (Or.inl (Or.inl (Or.inl (Or.inl (Or.inl (Or.inl (Or.inl (Or.inl (Or.inr ⟨rfl, rfl⟩)))))))))))))
      · exact Or.inl (Or.inl (Or.inl (Or.inl (Or.inl (Or.inl (Or.inl (Or.inl (Or.inl (Or.inl (Or.inl (Or.inl (Or.inl (Or.inl (Or.inl (Or.inr ⟨rfl, h⟩)))))))))))))))
      · exact Or.inl (Or.inl (Or.inl (Or.inl (Or.inl (Or.inl (Or.inl (Or.inl (Or.inl (Or.inl (Or.inl (Or.inl (Or.inr ⟨rfl, rfl⟩))))))))))))
      · rcases (by omega : q = 23 ∨ q = 24 ∨ q = 25) with rfl | rfl | rfl
        · exact Or.inl (Or.inl (Or.inl (Or.inl (Or.inl (Or.inl (Or.inl (Or.inl (Or.inl (Or.inl (Or.inl (Or.inr ⟨rfl, h⟩)))))))))))
        · exact Or.inl (Or.inl (Or.inl (Or.inl (Or.inl (Or.inl (Or.inl (Or.inl (Or.inl (Or.inl (Or.inr ⟨rfl, h⟩))))))))))
        · exact Or.inl (Or.inl (Or.inl (Or.inl (Or.inl (Or.inl (Or.inl (Or.inl (Or.inl (Or.inr ⟨rfl, h⟩)))))))))
      · exact Or.inl (Or.inl (Or.inl (Or.inl (Or.inl (Or.inl (Or.inl (Or.inl (Or.inr ⟨rfl, rfl⟩))))))))
      · rcases (by omega : q = 27 ∨ q = 28 ∨ q = 29) with rfl | rfl | rfl
        · exact Or.inl (Or.inl (Or.inl (Or.inl (Or.inl (Or.inl (Or.inl (Or.inr ⟨rfl, h⟩)))))))
        · exact Or.inl (Or.inl (Or.inl (Or.inl (Or.inl (Or.inl (Or.inr ⟨rfl, h⟩))))))
        · exact Or.inl (Or.inl (Or.inl (Or.inl (Or.inl (Or.inr ⟨rfl, h⟩)))))
      · exact Or.inl (Or.inl (Or.inl (Or.inl (Or.inr ⟨rfl, rfl⟩))))
      · rcases (by omega : q = 31 ∨ q = 32 ∨ q = 33 ∨ q = 34) with rfl | rfl | rfl | rfl
        · exact Or.inl (Or.inl (Or.inl (Or.inr ⟨rfl, h⟩)))
        · exact Or.inl (Or.inl (Or.inr ⟨rfl, h⟩))
        · exact Or.inl (Or.inr ⟨rfl, h⟩)
        · exact Or.inr ⟨rfl, h⟩
      · exact Or.inl (Or.inl (Or.inl (Or.inl (Or.inl (Or.inl (Or.inl (Or.inl (Or.inl (Or.inl (Or.inl (Or.inl (Or.inl (Or.inl (Or.inl (Or.inl (Or.inr ⟨0, by omega, Or.inr (Or.inl ⟨rfl, rfl⟩)⟩))))))))))))))))
      · exact Or.inl (Or.inl (Or.inl (Or.inl (Or.inl (Or.inl (Or.inl (Or.inl (Or.inl (Or.inl (Or.inl (Or.inl (Or.inl (Or.inl (Or.inl (Or.inl (Or.inr ⟨1, by omega, Or.inr (Or.inl ⟨rfl, rfl⟩)⟩))))))))))))))))
      · exact Or.inl (Or.inl (Or.inl (Or.inl (Or.inl (Or.inl (Or.inl (Or.inl (Or.inl (Or.inl (Or.inl (Or.inl (Or.inl (Or.inl (Or.inl (Or.inl (Or.inr ⟨2, by omega, Or.inr (Or.inl ⟨rfl, rfl⟩)⟩))))))))))))))))
      · exact Or.inl (Or.inl (Or.inl (Or.inl (Or.inl (Or.inl (Or.inl (Or.inl (Or.inl (Or.inl (Or.inl (Or.inl (Or.inl (Or.inl (Or.inl (Or.inl (Or.inr ⟨3, by omega, Or.inr (Or.inl ⟨rfl, rfl⟩)⟩))))))))))))))))
      · exact Or.inl (Or.inl (Or.inl (Or.inl (Or.inl (Or.inl (Or.inl (Or.inl (Or.inl (Or.inl (Or.inl (Or.inl (Or.inl (Or.inl (Or.inl (Or.inl (Or.inr ⟨0, by omega, Or.inr (Or.inr ⟨rfl, h⟩)⟩))))))))))))))))
      · exact Or.inl (Or.inl (Or.inl (Or.inl (Or.inl (Or.inl (Or.inl (Or.inl (Or.inl (Or.inl (Or.inl (Or.inl (Or.inl (Or.inl (Or.inl (Or.inl (Or.inr ⟨1, by omega, Or.inr (Or.inr ⟨rfl, h⟩)⟩))))))))))))))))
      · exact Or.inl (Or.inl (Or.inl (Or.inl (Or.inl (Or.inl (Or.inl (Or.inl (Or.inl (Or.inl (Or.inl (Or.inl (Or.inl (Or.inl (Or.inl (Or.inl (Or.inr ⟨2, by omega, Or.inr (Or.inr ⟨rfl, h⟩)⟩))))))))))))))))
      · exact Or.inl (Or.inl (Or.inl (Or.inl (Or.inl (Or.inl (Or.inl (Or.inl (Or.inl (Or.inl (Or.inl (Or.inl (Or.inl (Or.inl (Or.inl (Or.inl (Or.inr ⟨3, by omega, Or.inr (Or.inr ⟨rfl, h⟩)⟩))))))))))))))))
  have kept : ∀ k t (J : Nat → Nat → Int32), t + k = 4 → br_Cp 9 83 I (fun q j => ((((((((((((((False ∨ (q = 1 ∧ j < 18)) ∨ (q = 2 ∧ j < 18)) ∨ (q = 0 ∧ j = 2)) ∨ (q = 3 ∧ j < 40)) ∨ (q = 4 ∧ j < 40)) ∨ (q = 5 ∧ j < 40)) ∨ (q = 6 ∧ j < 40)) ∨ (q = 7 ∧ j < 40)) ∨ (q = 0 ∧ j = 8)) ∨ (q = 0 ∧ j = 9)) ∨ ∃ u, u < 6 ∧ ((q = 9 + u ∧ j < 40) ∨ (q = 15 ∧ j = u))) ∨ (q = 17 ∧ j < 18)) ∨ (q = 16 ∧ j = 1)) ∨ ∃ u, u < t ∧ ((q = 19 ∧ j = u) ∨ (q = 35 + 2 * u ∧ j = 1) ∨ (q = 36 + 2 * u ∧ j < 18)))) J →
      br_r (d + 1) 182 187 [some (.ref 9), some (.ref 83), some (.int (nI t))] [] (br_hp n J L) Q := by
    intro k
    induction k with
    | zero =>
      intro t J ht c1
      have : t = 4 := by omega
      subst this
      exact rb_World_copyc_187 (br_t (nI_le (Nat.le_refl 4) (by omega)) (tail _ J c1))
    | succ k ih =>
      intro t J ht c1
      obtain ⟨lA, rA⟩ := (br_lwW (n := n) (w := 9) (Or.inl rfl)).2 t (by omega)
      obtain ⟨lB, rB⟩ := (br_lwW (n := n) (w := 83) (Or.inr (Or.inl rfl))).2 t (by omega)
      have rA' : br_R0 27 t = 9 + (35 + 2 * t) := rA
      have rB' : br_R0 101 t = 83 + (35 + 2 * t) := rB
      have c2 := br_Cp_c (m := 18) c1 dj (q := 36 + 2 * t) (a := 83 + (35 + 2 * t) + 1) (b := 9 + (35 + 2 * t) + 1) (by omega) (by omega) (by omega)
      have c3 := br_Cp_u (q := 35 + 2 * t) (k := 1) (b := 9 + (35 + 2 * t)) c2 (by omega) (by omega) (fr c2 (35 + 2 * t) 1 (by omega))
      have c4 := br_Cp_u (q := 19) (k := t) (b := 28) c3 (by omega) rfl (fr c3 19 t (by omega))
      refine rb_World_copyc_187 (br_f (nI_ge (b := 4) (by omega) (by omega)) ?_)
      rw [nI_clamp (by omega), rA', rB']
      refine ⟨vp_in_nI (by omega) (by omega), vp_in_nI (by omega) (by omega), lA.1, rs_Law_copy lA lB (rb_World_copyc_207 ?_)⟩
      rw [nI_clamp (by omega), nI_add]
      have e1 := fr c3 19 t (by omega)
      have e2 : ∀ x : Int32, x = I (83 + 19) t → vp_nar .boolean x = x := fun x hx => br_01 (by rw [hx]; exact hk t (by omega))
      rw [e2 _ e1]
      refine ⟨vp_in_nI (by omega) (by omega), vp_in_nI (by omega) (by omega), ih (t + 1) _ (by omega) (br_Cp_w c4 (fun q j h => ?_))⟩
      rcases h with h | ⟨u, hu, h⟩
      · exact Or.inl (Or.inl (Or.inl (Or.inl h)))
      · by_cases e : u = t
        · subst e
          rcases h with h | h | h
          · exact Or.inr h
          · exact Or.inl (Or.inr h)
          · exact Or.inl (Or.inl (Or.inr h))
        · exact Or.inl (Or.inl (Or.inl (Or.inr ⟨u, by omega, h⟩)))
  have pts : ∀ k t (J : Nat → Nat → Int32), t + k = 6 → br_Cp 9 83 I (fun q j => (((((((((((False ∨ (q = 1 ∧ j < 18)) ∨ (q = 2 ∧ j < 18)) ∨ (q = 0 ∧ j = 2)) ∨ (q = 3 ∧ j < 40)) ∨ (q = 4 ∧ j < 40)) ∨ (q = 5 ∧ j < 40)) ∨ (q = 6 ∧ j < 40)) ∨ (q = 7 ∧ j < 40)) ∨ (q = 0 ∧ j = 8)) ∨ (q = 0 ∧ j = 9)) ∨ ∃ u, u < t ∧ ((q = 9 + u ∧ j < 40) ∨ (q = 15 ∧ j = u)))) J →
      br_r (d + 1) 182 131 [some (.ref 9), some (.ref 83), some (.int (nI t))] [] (br_hp n J L) Q := by
    intro k
    induction k with
    | zero =>
      intro t J ht c1
      have : t = 6 := by omega
      subst this
      have c2 := br_Cp_c (m := 18) c1 dj (q := 17) (a := 83 + 16 + 1) (b := 9 + 16 + 1) (by omega) rfl rfl
      have c3 := br_Cp_u (q := 16) (k := 1) (b := 9 + 16) c2 (by omega) rfl (fr c2 16 1 (by omega))
      refine rb_World_copyc_131 (br_t (nI_le (Nat.le_refl 6) (by omega)) (rs_Law_copy (br_lwW (n := n) (w := 9) (Or.inl rfl)).1 (br_lwW (n := n) (w := 83) (Or.inr (Or.inl rfl))).1 (rb_World_copyc_185 ?_)))
      exact kept 4 0 _ (by omega) (br_Cp_w c3 (fun q j h => h.elim id (fun z => by obtain ⟨u, hu, _⟩ := z; omega)))
    | succ k ih =>
      intro t J ht c1
      obtain ⟨pA, sA⟩ := br_ptP (n := n) (w := 9) (Or.inl rfl) (t := t) (by omega)
      obtain ⟨pB, sB⟩ := br_ptP (n := n) (w := 83) (Or.inr (Or.inl rfl)) (t := t) (by omega)
      have pA' : br_R0 17 t = 9 + (9 + t) := pA
      have pB' : br_R0 91 t = 83 + (9 + t) := pB
      have c2 := br_Cp_c (m := 40) c1 dj (q := 9 + t) (a := 83 + (9 + t)) (b := 9 + (9 + t)) (by omega) rfl rfl
      have c3 := br_Cp_u (q := 15) (k := t) (b := 24) c2 (by omega) rfl (fr c2 15 t (by omega))
      refine rb_World_copyc_131 (br_f (nI_ge (b := 6) (by omega) (by omega)) ?_)
      rw [nI_clamp (by omega), pA', pB', sA, sB]
      refine ⟨vp_in_nI (by omega) (by omega), vp_in_nI (by omega) (by omega), by omega, by omega, by omega, by omega, ⟨rfl, rfl⟩, rb_World_copyc_156 ?_⟩
      rw [nI_clamp (by omega), nI_add]
      refine ⟨vp_in_nI (by omega) (by omega), vp_in_nI (by omega) (by omega), ih (t + 1) _ (by omega) (br_Cp_w c3 (fun q j h => ?_))⟩
      rcases h with h | ⟨u, hu, h⟩
      · exact Or.inl (Or.inl (Or.inl h))
      · by_cases e : u = t
        · subst e
          rcases h with h | h
          · exact Or.inl (Or.inr h)
          · exact Or.inr h
        · exact Or.inl (Or.inl (Or.inr ⟨u, by omega, h⟩))
  exact pts 6 0 _ (by omega) (br_Cp_w c10 (fun q j h => h.elim id (fun z => by obtain ⟨u, hu, _⟩ := z; omega)))
theorem rs_copy_d {z2 : Option Value} (hk : ∀ t, t < 4 → I (126 + 19) t = nI 0 ∨ I (126 + 19) t = nI 1) (H : ∀ J : Nat → Nat → Int32, (∀ p j, ¬ (9 ≤ p ∧ p ≤ 9 + 42) → J p j = I p j) → (∀ q j, br_al q j → J (9 + q) j = I (126 + q) j) → Q none (br_hp n J L)) :
    br_r (d + 1) 182 0 [some (.ref 9), some (.ref 126), z2] [] (br_hp n I L) Q := by
  have dj : 126 + 42 < 9 ∨ 9 + 42 < 126 := by omega
  have fr : ∀ {S : Nat → Nat → Prop} {J : Nat → Nat → Int32} (h : br_Cp 9 126 I S J) (q k : Nat), q ≤ 42 → J (126 + q) k = I (126 + q) k := fun h q k hq => h.1 _ _ (by omega)
  have c1 := br_Cp_c (m := 18) (br_Cp_0 (w' := 9) (w := 126) (I := I)) dj (q := 1) (a := 127) (b := 10) (by omega) rfl rfl
  have c2 := br_Cp_c (m := 18) c1 dj (q := 2) (a := 128) (b := 11) (by omega) rfl rfl
  have c3 := br_Cp_u (q := 0) (k := 2) (b := 9) c2 (by omega) rfl (fr c2 0 2 (by omega))
  have c4 := br_Cp_c (m := 40) c3 dj (q := 3) (a := 129) (b := 12) (by omega) rfl rfl
  have c5 := br_Cp_c (m := 40) c4 dj (q := 4) (a := 130) (b := 13) (by omega) rfl rfl
  have c6 := br_Cp_c (m := 40) c5 dj (q := 5) (a := 131) (b := 14) (by omega) rfl rfl
  have c7 := br_Cp_c (m := 40) c6 dj (q := 6) (a := 132) (b := 15) (by omega) rfl rfl
  have c8 := br_Cp_c (m := 40) c7 dj (q := 7) (a := 133) (b := 16) (by omega) rfl rfl
  have c9 := br_Cp_u (q := 0) (k := 8) (b := 9) c8 (by omega) rfl (fr c8 0 8 (by omega))
  have c10 := br_Cp_u (q := 0) (k := 9) (b := 9) c9 (by omega) rfl (fr c9 0 9 (by omega))
  refine rb_World_copyd_0 (rb_World_copyd_15 (rb_World_copyd_30 (rb_World_copyd_38 (rb_World_copyd_53 (rb_World_copyd_68 (rb_World_copyd_83 (rb_World_copyd_98 (rb_World_copyd_113 (rb_World_copyd_121 (rb_World_copyd_129 ?_))))))))))
  clear c1 c2 c3 c4 c5 c6 c7 c8 c9
  -- films, marks, trials and the end
  have tail : ∀ (z : Option Value) (J : Nat → Nat → Int32), br_Cp 9 126 I (fun q j => ((((((((((((((False ∨ (q = 1 ∧ j < 18)) ∨ (q = 2 ∧ j < 18)) ∨ (q = 0 ∧ j = 2)) ∨ (q = 3 ∧ j < 40)) ∨ (q = 4 ∧ j < 40)) ∨ (q = 5 ∧ j < 40)) ∨ (q = 6 ∧ j < 40)) ∨ (q = 7 ∧ j < 40)) ∨ (q = 0 ∧ j = 8)) ∨ (q = 0 ∧ j = 9)) ∨ ∃ u, u < 6 ∧ ((q = 9 + u ∧ j < 40) ∨ (q = 15 ∧ j = u))) ∨ (q = 17 ∧ j < 18)) ∨ (q = 16 ∧ j = 1)) ∨ ∃ u, u < 4 ∧ ((q = 19 ∧ j = u) ∨ (q = 35 + 2 * u ∧ j = 1) ∨ (q = 36 + 2 * u ∧ j < 18)))) J →
      br_r d 77 0 [some (.ref 29), some (.ref 146)] [] (br_hp n J L) (fun v h => br_r (d + 1) 182 236 [some (.ref 9), some (.ref 126), z] (v.toList ++ []) (br_bk h) Q) := by
    intro z J c1
    have e400 : (Int32.ofNat (br_S0 n (br_R0 29 0)).2).toNatClampNeg = 400 := by show (Int32.ofNat 400).toNatClampNeg = 400; decide +kernel
    refine rb_Rules_copy_0 ⟨rfl, rfl, rfl, rfl, by show 8 ≤ 147; omega, by show 8 ≤ 30; omega, by show ¬ Int32.ofNat 400 < 0; decide +kernel, ?_, ?_, ⟨rfl, rfl⟩, rfl, rfl, rfl, rfl, ?_⟩
    · rw [e400]; show 0 + 400 ≤ 400; omega
    · rw [e400]; show 0 + 400 ≤ 400; omega
    rw [e400]
    have c2 := br_Cp_c (m := 400) c1 dj (q := 21) (a := 147) (b := 30) (by omega) rfl rfl
    have c3 := br_Cp_u (q := 20) (k := 1) (b := 29) c2 (by omega) rfl (fr c2 20 1 (by omega))
    have c4 := br_Cp_u (q := 20) (k := 2) (b := 29) c3 (by omega) rfl (fr c3 20 2 (by omega))
    have c5 := br_Cp_u (q := 22) (k := 3) (b := 31) c4 (by omega) rfl (fr c4 22 3 (by omega))
    have c6 := br_Cp_c (m := 24) c5 dj (q := 23) (a := 149) (b := 32) (by omega) rfl rfl
    have c7 := br_Cp_c (m := 24) c6 dj (q := 24) (a := 150) (b := 33) (by omega) rfl rfl
    have c8 := br_Cp_c (m := 24) c7 dj (q := 25) (a := 151) (b := 34) (by omega) rfl rfl
    have c9 := br_Cp_u (q := 26) (k := 3) (b := 35) c8 (by omega) rfl (fr c8 26 3 (by omega))
    have c10 := br_Cp_c (m := 40) c9 dj (q := 27) (a := 153) (b := 36) (by omega) rfl rfl
    have c11 := br_Cp_c (m := 40) c10 dj (q := 28) (a := 154) (b := 37) (by omega) rfl rfl
    have c12 := br_Cp_c (m := 40) c11 dj (q := 29) (a := 155) (b := 38) (by omega) rfl rfl
    have c13 := br_Cp_u (q := 30) (k := 4) (b := 39) c12 (by omega) rfl (fr c12 30 4 (by omega))
    have c14 := br_Cp_c (m := 20) c13 dj (q := 31) (a := 157) (b := 40) (by omega) rfl rfl
    have c15 := br_Cp_c (m := 20) c14 dj (q := 32) (a := 158) (b := 41) (by omega) rfl rfl
    have c16 := br_Cp_c (m := 20) c15 dj (q := 33) (a := 159) (b := 42) (by omega) rfl rfl
    have c17 := br_Cp_c (m := 20) c16 dj (q := 34) (a := 160) (b := 43) (by omega) rfl rfl
    refine rb_World_copyd_236 (rb_Films_copyd_0 (rb_Films_copyd_8 (rb_Films_copyd_23 (rb_Films_copyd_38 (rb_Films_copyd_53 (rb_World_copyd_247 (rb_Marks_copyd_0 (rb_Marks_copyd_8 (rb_Marks_copyd_23 (rb_Marks_copyd_38 (rb_Marks_copyd_53 (rb_World_copyd_258 (rb_Trials_copyd_0 (rb_Trials_copyd_8 (rb_Trials_copyd_23 (rb_Trials_copyd_38 (rb_Trials_copyd_53 (rb_Trials_copyd_68 (rb_World_copyd_269 ?_)))))))))))))))))))
    refine H _ c17.1 (fun q j hq => c17.2 q j ?_ ?_)
    · unfold br_al br_alB at hq; rw [decide_eq_true_eq] at hq; omega
    · unfold br_al br_alB at hq
      rw [decide_eq_true_eq] at hq
      rcases hq with ⟨rfl, rfl | rfl | rfl⟩ | ⟨rfl | rfl, h⟩ | ⟨h1, h2, h⟩ | ⟨h1, h2, h⟩ | ⟨rfl, h⟩ | ⟨rfl, rfl⟩ | ⟨rfl, h⟩ | ⟨rfl, h⟩ | ⟨rfl, rfl | rfl⟩ | ⟨rfl, h⟩ | ⟨rfl, rfl⟩ | ⟨h1, h2, h⟩ | ⟨rfl, rfl⟩ | ⟨h1, h2, h⟩ | ⟨rfl, rfl⟩ | ⟨h1, h2, h⟩ | ⟨rfl | rfl | rfl | rfl, rfl⟩ | ⟨rfl | rfl | rfl | rfl, h⟩
      · exact Or.inl (Or.inl (Or.inl (Or.inl (Or.inl (Or.inl (Or.inl (Or.inl (Or.inl (Or.inl (Or.inl (Or.inl (Or.inl (Or.inl (Or.inl (Or.inl (Or.inl (Or.inl (Or.inl (Or.inl (Or.inl (Or.inl (Or.inl (Or.inl (Or.inl (Or.inl (Or.inl (Or.inr ⟨rfl, rfl⟩)))))))))))))))))))))))))))
      · exact Or.inl (Or.inl (Or.inl (Or.inl (Or.inl (Or.inl (Or.inl (Or.inl (Or.inl (Or.inl (Or.inl (Or.inl (Or.inl (Or.inl (Or.inl (Or.inl (Or.inl (Or.inl (Or.inl (Or.inl (Or.inl (Or.inr ⟨rfl, rfl⟩)))))))))))))))))))))
      · exact Or.inl (Or.inl (Or.inl (Or.inl (Or.inl (Or.inl (Or.inl (Or.inl (Or.inl (Or.inl (Or.inl (Or.inl (Or.inl (Or.inl (Or.inl (Or.inl (Or.inl (Or.inl (Or.inl (Or.inl (Or.inr ⟨rfl, rfl⟩))))))))))))))))))))
      · exact Or.inl (Or.inl (Or.inl (Or.inl (Or.inl (Or.inl (Or.inl (Or.inl (Or.inl (Or.inl (Or.inl (Or.inl (Or.inl (Or.inl (Or.inl (Or.inl (Or.inl (Or.inl (Or.inl (Or.inl (Or.inl (Or.inl (Or.inl (Or.inl (Or.inl (Or.inl (Or.inl (Or.inl (Or.inl (Or.inr ⟨rfl, h⟩)))))))))))))))))))))))))))))
      · exact Or.inl (Or.inl (Or.inl (Or.inl (Or.inl (Or.inl (Or.inl (Or.inl (Or.inl (Or.inl (Or.inl (Or.inl (Or.inl (Or.inl (Or.inl (Or.inl (Or.inl (Or.inl (Or.inl (Or.inl (Or.inl (Or.inl (Or.inl (Or.inl (Or.inl (Or.inl (Or.inl (Or.inl (Or.inr ⟨rfl, h⟩))))))))))))))))))))))))))))
      · rcases (by omega : q = 3 ∨ q = 4 ∨ q = 5 ∨ q = 6 ∨ q = 7) with rfl | rfl | rfl | rfl | rfl
        · exact Or.inl (Or.inl (Or.inl (Or.inl (Or.inl (Or.inl (Or.inl (Or.inl (Or.inl (Or.inl (Or.inl (Or.inl (Or.inl (Or.inl (Or.inl (Or.inl (Or.inl (Or.inl (Or.inl (Or.inl (Or.inl (Or.inl (Or.inl (Or.inl (Or.inl (Or.inl (Or.inr ⟨rfl, h⟩))))))))))))))))))))))))))
        · exact Or.inl (Or.inl (Or.inl (Or.inl (Or.inl (Or.inl (Or.inl (Or.inl (Or.inl (Or.inl (Or.inl (Or.inl (Or.inl (Or.inl (Or.inl (Or.inl (Or.inl (Or.inl (Or.inl (Or.inl (Or.inl (Or.inl (Or.inl (Or.inl (Or.inl (Or.inr ⟨rfl, h⟩)))))))))))))))))))))))))
        · exact Or.inl (Or.inl (Or.inl (Or.inl (Or.inl (Or.inl (Or.inl (Or.inl (Or.inl (Or.inl (Or.inl (Or.inl (Or.inl (Or.inl (Or.inl (Or.inl (Or.inl (Or.inl (Or.inl (Or.inl (Or.inl (Or.inl (Or.inl (Or.inl (Or.inr ⟨rfl, h⟩))))))))))))))))))))))))
        · exact Or.inl (Or.inl (Or.inl (Or.inl (Or.inl (Or.inl (Or.inl (Or.inl (Or.inl (Or.inl (Or.inl (Or.inl (Or.inl (Or.inl (Or.inl (Or.inl (Or.inl (Or.inl (Or.inl (Or.inl (Or.inl (Or.inl (Or.inl (Or.inr ⟨rfl, h⟩)))))))))))))))))))))))
        · exact Or.inl (Or.inl (Or.inl (Or.inl (Or.inl (Or.inl (Or.inl (Or.inl (Or.inl (Or.inl (Or.inl (Or.inl (Or.inl (Or.inl (Or.inl (Or.inl (Or.inl (Or.inl (Or.inl (Or.inl (Or.inl (Or.inl (Or.inr ⟨rfl, h⟩))))))))))))))))))))))
      · exact Or.inl (Or.inl (Or.inl (Or.inl (Or.inl (Or.inl (Or.inl (Or.inl (Or.inl (Or.inl (Or.inl (Or.inl (Or.inl (Or.inl (Or.inl (Or.inl (Or.inl (Or.inl (Or.inl (Or.inr ⟨q - 9, by omega, Or.inl ⟨by omega, h⟩⟩)))))))))))))))))))
      · exact Or.inl (Or.inl (Or.inl (Or.inl (Or.inl (Or.inl (Or.inl (Or.inl (Or.inl (Or.inl (Or.inl (Or.inl (Or.inl (Or.inl (Or.inl (Or.inl (Or.inl (Or.inl (Or.inl (Or.inr ⟨j, h, Or.inr ⟨rfl, rfl⟩⟩)))))))))))))))))))
      · exact Or.inl (Or.inl (Or.inl (Or.inl (Or.inl (Or.inl (Or.inl (Or.inl (Or.inl (Or.inl (Or.inl (Or.inl (Or.inl (Or.inl (Or.inl (Or.inl (Or.inl (Or.inr ⟨rfl, rfl⟩)))))))))))))))))
      · exact Or.inl (Or.inl (Or.inl (Or.inl (Or.inl (Or.inl (Or.inl (Or.inl (Or.inl (Or.inl (Or.inl (Or.inl (Or.inl (Or.inl (Or.inl (Or.inl (Or.inl (Or.inl (Or.inr ⟨rfl, h⟩))))))))))))))))))
      · exact Or.inl (Or.inl (Or.inl (Or.inl (Or.inl (Or.inl (Or.inl (Or.inl (Or.inl (Or.inl (Or.inl (Or.inl (Or.inl (Or.inl (Or.inl (Or.inl (Or.inr ⟨j, h, Or.inl ⟨rfl, rfl⟩⟩))))))))))))))))
      · exact Or.inl (Or.inl (Or.inl (Or.inl (Or.inl (Or.inl (Or.inl (Or.inl (Or.inl (Or.inl (Or.inl (Or.inl (Or.inl (Or.inl (Or.inr ⟨rfl, rfl⟩))))))))))))))
      · exact Or.inl (Or.inl (Or.inl (Or.inl (Or.inl (Or.inl (Or.inl (Or.inl (Or.inl (Or.inl (Or.inl (Or.inl (Or.inl (Or.inr ⟨rfl, rfl⟩)))))))))))))
      · exact Or.inl (Or.inl (Or.inl (Or.inl (Or.inl (Or.inl (Or.inl (Or.inl (Or.inl (Or.inl (Or.inl (Or.inl (Or.inl (Or.inl (Or.inl (Or.inr ⟨rfl, h⟩)))))))))))))))
      · exact Or.inl (Or.inl (Or.inl (Or.inl (Or.inl (Or.inl (Or.inl (Or.inl (Or.inl (Or.inl (Or.inl (Or.inl (Or.inr ⟨rfl, rfl⟩))))))))))))
      · rcases (by omega : q = 23 ∨ q = 24 ∨ q = 25) with rfl | rfl | rfl
        · exact Or.inl (Or.inl (Or.inl (Or.inl (Or.inl (Or.inl (Or.inl (Or.inl (Or.inl (Or.inl (Or.inl (Or.inr ⟨rfl, h⟩)))))))))))
        · exact Or.inl (Or.inl (Or.inl (Or.inl (Or.inl (Or.inl (Or.inl (Or.inl (Or.inl (Or.inl (Or.inr ⟨rfl, h⟩))))))))))
        · exact Or.inl (Or.inl (Or.inl (Or.inl (Or.inl (Or.inl (Or.inl (Or.inl (Or.inl (Or.inr ⟨rfl, h⟩)))))))))
      · exact Or.inl (Or.inl (Or.inl (Or.inl (Or.inl (Or.inl (Or.inl (Or.inl (Or.inr ⟨rfl, rfl⟩))))))))
      · rcases (by omega : q = 27 ∨ q = 28 ∨ q = 29) with rfl | rfl | rfl
        · exact Or.inl (Or.inl (Or.inl (Or.inl (Or.inl (Or.inl (Or.inl (Or.inr ⟨rfl, h⟩)))))))
        · exact Or.inl (Or.inl (Or.inl (Or.inl (Or.inl (Or.inl (Or.inr ⟨rfl, h⟩))))))
        · exact Or.inl (Or.inl (Or.inl (Or.inl (Or.inl (Or.inr ⟨rfl, h⟩)))))
      · exact Or.inl (Or.inl (Or.inl (Or.inl (Or.inr ⟨rfl, rfl⟩))))
      · rcases (by omega : q = 31 ∨ q = 32 ∨ q = 33 ∨ q = 34) with rfl | rfl | rfl | rfl
        · exact Or.inl (Or.inl (Or.inl (Or.inr ⟨rfl, h⟩)))
        · exact Or.inl (Or.inl (Or.inr ⟨rfl, h⟩))
        · exact Or.inl (Or.inr ⟨rfl, h⟩)
        · exact Or.inr ⟨rfl, h⟩
      · exact Or.inl (Or.inl (Or.inl (Or.inl (Or.inl (Or.inl (Or.inl (Or.inl (Or.inl (Or.inl (Or.inl (Or.inl (Or.inl (Or.inl (Or.inl (Or.inl (Or.inr ⟨0, by omega, Or.inr (Or.inl ⟨rfl, rfl⟩)⟩))))))))))))))))
      · exact Or.inl (Or.inl (Or.inl (Or.inl (Or.inl (Or.inl (Or.inl (Or.inl (Or.inl (Or.inl (Or.inl (Or.inl (Or.inl (Or.inl (Or.inl (Or.inl (Or.inr ⟨1, by omega, Or.inr (Or.inl ⟨rfl, rfl⟩)⟩))))))))))))))))
      · exact Or.inl (Or.inl (Or.inl (Or.inl (Or.inl (Or.inl (Or.inl (Or.inl (Or.inl (Or.inl (Or.inl (Or.inl (Or.inl (Or.inl (Or.inl (Or.inl (Or.inr ⟨2, by omega, Or.inr (Or.inl ⟨rfl, rfl⟩)⟩))))))))))))))))
      · exact Or.inl (Or.inl (Or.inl (Or.inl (Or.inl (Or.inl (Or.inl (Or.inl (Or.inl (Or.inl (Or.inl (Or.inl (Or.inl (Or.inl (Or.inl (Or.inl (Or.inr ⟨3, by omega, Or.inr (Or.inl ⟨rfl, rfl⟩)⟩))))))))))))))))
      · exact Or.inl (Or.inl (Or.inl (Or.inl (Or.inl (Or.inl (Or.inl (Or.inl (Or.inl (Or.inl (Or.inl (Or.inl (Or.inl (Or.inl (Or.inl (Or.inl (Or.inr ⟨0, by omega, Or.inr (Or.inr ⟨rfl, h⟩)⟩))))))))))))))))
      · exact Or.inl (Or.inl (Or.inl (Or.inl (Or.inl (Or.inl (Or.inl (Or.inl (Or.inl (Or.inl (Or.inl (Or.inl (Or.inl (Or.inl (Or.inl (Or.inl (Or.inr ⟨1, by omega, Or.inr (Or.inr ⟨rfl, h⟩)⟩))))))))))))))))
      · exact Or.inl (Or.inl (Or.inl (Or.inl (Or.inl (Or.inl (Or.inl (Or.inl (Or.inl (Or.inl (Or.inl (Or.inl (Or.inl (Or.inl (Or.inl (Or.inl (Or.inr ⟨2, by omega, Or.inr (Or.inr ⟨rfl, h⟩)⟩))))))))))))))))
      · exact Or.inl (Or.inl (Or.inl (Or.inl (Or.inl (Or.inl (Or.inl (Or.inl (Or.inl (Or.inl (Or.inl (Or.inl (Or.inl (Or.inl (Or.inl (Or.inl (Or.inr ⟨3, by omega, Or.inr (Or.inr ⟨rfl, h⟩)⟩))))))))))))))))
  have kept : ∀ k t (J : Nat → Nat → Int32), t + k = 4 → br_Cp 9 126 I (fun q j => ((((((((((((((False ∨ (q = 1 ∧ j < 18)) ∨ (q = 2 ∧ j < 18)) ∨ (q = 0 ∧ j = 2)) ∨ (q = 3 ∧ j < 40)) ∨ (q = 4 ∧ j < 40)) ∨ (q = 5 ∧ j < 40)) ∨ (q = 6 ∧ j < 40)) ∨ (q = 7 ∧ j < 40)) ∨ (q = 0 ∧ j = 8)) ∨ (q = 0 ∧ j = 9)) ∨ ∃ u, u < 6 ∧ ((q = 9 + u ∧ j < 40) ∨ (q = 15 ∧ j = u))) ∨ (q = 17 ∧ j < 18)) ∨ (q = 16 ∧ j = 1)) ∨ ∃ u, u < t ∧ ((q = 19 ∧ j = u) ∨ (q = 35 + 2 * u ∧ j = 1) ∨ (q = 36 + 2 * u ∧ j < 18)))) J →
      br_r (d + 1) 182 187 [some (.ref 9), some (.ref 126), some (.int (nI t))] [] (br_hp n J L) Q := by
    intro k
    induction k with
    | zero =>
      intro t J ht c1
      have : t = 4 := by omega
      subst this
      exact rb_World_copyd_187 (br_t (nI_le (Nat.le_refl 4) (by omega)) (tail _ J c1))
    | succ k ih =>
      intro t J ht c1
      obtain ⟨lA, rA⟩ := (br_lwW (n := n) (w := 9) (Or.inl rfl)).2 t (by omega)
      obtain ⟨lB, rB⟩ := (br_lwW (n := n) (w := 126) (Or.inr (Or.inr rfl))).2 t (by omega)
      have rA' : br_R0 27 t = 9 + (35 + 2 * t) := rA
      have rB' : br_R0 144 t = 126 + (35 + 2 * t) := rB
      have c2 := br_Cp_c (m := 18) c1 dj (q := 36 + 2 * t) (a := 126 + (35 + 2 * t) + 1) (b := 9 + (35 + 2 * t) + 1) (by omega) (by omega) (by omega)
      have c3 := br_Cp_u (q := 35 + 2 * t) (k := 1) (b := 9 + (35 + 2 * t)) c2 (by omega) (by omega) (fr c2 (35 + 2 * t) 1 (by omega))
      have c4 := br_Cp_u (q := 19) (k := t) (b := 28) c3 (by omega) rfl (fr c3 19 t (by omega))
      refine rb_World_copyd_187 (br_f (nI_ge (b := 4) (by omega) (by omega)) ?_)
      rw [nI_clamp (by omega), rA', rB']
      refine ⟨vp_in_nI (by omega) (by omega), vp_in_nI (by omega) (by omega), lA.1, rs_Law_copy lA lB (rb_World_copyd_207 ?_)⟩
      rw [nI_clamp (by omega), nI_add]
      have e1 := fr c3 19 t (by omega)
      have e2 : ∀ x : Int32, x = I (126 + 19) t → vp_nar .boolean x = x := fun x hx => br_01 (by rw [hx]; exact hk t (by omega))
      rw [e2 _ e1]
      refine ⟨vp_in_nI (by omega) (by omega), vp_in_nI (by omega) (by omega), ih (t + 1) _ (by omega) (br_Cp_w c4 (fun q j h => ?_))⟩
      rcases h with h | ⟨u, hu, h⟩
      · exact Or.inl (Or.inl (Or.inl (Or.inl h)))
      · by_cases e : u = t
        · subst e
          rcases h with h | h | h
          · exact Or.inr h
          · exact Or.inl (Or.inr h)
          · exact Or.inl (Or.inl (Or.inr h))
        · exact Or.inl (Or.inl (Or.inl (Or.inr ⟨u, by omega, h⟩)))
  have pts : ∀ k t (J : Nat → Nat → Int32), t + k = 6 → br_Cp 9 126 I (fun q j => (((((((((((False ∨ (q = 1 ∧ j < 18)) ∨ (q = 2 ∧ j < 18)) ∨ (q = 0 ∧ j = 2)) ∨ (q = 3 ∧ j < 40)) ∨ (q = 4 ∧ j < 40)) ∨ (q = 5 ∧ j < 40)) ∨ (q = 6 ∧ j < 40)) ∨ (q = 7 ∧ j < 40)) ∨ (q = 0 ∧ j = 8)) ∨ (q = 0 ∧ j = 9)) ∨ ∃ u, u < t ∧ ((q = 9 + u ∧ j < 40) ∨ (q = 15 ∧ j = u)))) J →
      br_r (d + 1) 182 131 [some (.ref 9), some (.ref 126), some (.int (nI t))] [] (br_hp n J L) Q := by
    intro k
    induction k with
    | zero =>
      intro t J ht c1
      have : t = 6 := by omega
      subst this
      have c2 := br_Cp_c (m := 18) c1 dj (q := 17) (a := 126 + 16 + 1) (b := 9 + 16 + 1) (by omega) rfl rfl
      have c3 := br_Cp_u (q := 16) (k := 1) (b := 9 + 16) c2 (by omega) rfl (fr c2 16 1 (by omega))
      refine rb_World_copyd_131 (br_t (nI_le (Nat.le_refl 6) (by omega)) (rs_Law_copy (br_lwW (n := n) (w := 9) (Or.inl rfl)).1 (br_lwW (n := n) (w := 126) (Or.inr (Or.inr rfl))).1 (rb_World_copyd_185 ?_)))
      exact kept 4 0 _ (by omega) (br_Cp_w c3 (fun q j h => h.elim id (fun z => by obtain ⟨u, hu, _⟩ := z; omega)))
    | succ k ih =>
      intro t J ht c1
      obtain ⟨pA, sA⟩ := br_ptP (n := n) (w := 9) (Or.inl rfl) (t := t) (by omega)
      obtain ⟨pB, sB⟩ := br_ptP (n := n) (w := 126) (Or.inr (Or.inr rfl)) (t := t) (by omega)
      have pA' : br_R0 17 t = 9 + (9 + t) := pA
      have pB' : br_R0 134 t = 126 + (9 + t) := pB
      have c2 := br_Cp_c (m := 40) c1 dj (q := 9 + t) (a := 126 + (9 + t)) (b := 9 + (9 + t)) (by omega) rfl rfl
      have c3 := br_Cp_u (q := 15) (k := t) (b := 24) c2 (by omega) rfl (fr c2 15 t (by omega))
      refine rb_World_copyd_131 (br_f (nI_ge (b := 6) (by omega) (by omega)) ?_)
      rw [nI_clamp (by omega), pA', pB', sA, sB]
      refine ⟨vp_in_nI (by omega) (by omega), vp_in_nI (by omega) (by omega), by omega, by omega, by omega, by omega, ⟨rfl, rfl⟩, rb_World_copyd_156 ?_⟩
      rw [nI_clamp (by omega), nI_add]
      refine ⟨vp_in_nI (by omega) (by omega), vp_in_nI (by omega) (by omega), ih (t + 1) _ (by omega) (br_Cp_w c3 (fun q j h => ?_))⟩
      rcases h with h | ⟨u, hu, h⟩
      · exact Or.inl (Or.inl (Or.inl h))
      · by_cases e : u = t
        · subst e
          rcases h with h | h
          · exact Or.inl (Or.inr h)
          · exact Or.inr h
        · exact Or.inl (Or.inl (Or.inr ⟨u, by omega, h⟩))
  exact pts 6 0 _ (by omega) (br_Cp_w c10 (fun q j h => h.elim id (fun z => by obtain ⟨u, hu, _⟩ := z; omega)))
end
