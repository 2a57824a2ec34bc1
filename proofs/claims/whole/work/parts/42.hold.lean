set_option maxRecDepth 100000
set_option maxHeartbeats 4000000
/-! what is held of a child, and what grows of it -/
def bm_pos (x : Int32) : Int32 := if x < nI 0 then nI 0 else x
theorem bm_pos_T {x : Int32} (h : nI 0 ≤ x) : bm_pos x = x := if_neg (by rw [br_ltT]; rw [br_leT] at h; omega)
theorem bm_pos_F {x : Int32} (h : ¬ nI 0 ≤ x) : bm_pos x = nI 0 := if_pos (by rw [br_ltT]; rw [br_leT] at h; omega)
theorem bm_pos_max {x : Int32} : br_max (nI 0) x = bm_pos x := by
  unfold br_max
  by_cases h : nI 0 ≤ x
  · rw [bm_pos_T h]
    by_cases h2 : nI 0 < x
    · rw [if_pos h2]
    · rw [if_neg h2]
      apply Int32.toInt_inj.mp
      rw [br_leT] at h; rw [br_ltT] at h2; omega
  · rw [bm_pos_F h, if_neg]
    rw [br_leT] at h; rw [br_ltT]; omega
def bm_full (g : Nat → Int32) (o r w : Nat) : Int32 := g (o + w) * bm_pos (nI 100 - g (o + 12) * g (630 + r)) / nI 100
def bm_hold (g : Nat → Int32) (o r w : Nat) (y : Int32) : Int32 := if g (648 + r) = nI 1 ∧ nI 0 < y then bm_full g o r w / nI 2 else bm_full g o r w
theorem bm_hold_T {g : Nat → Int32} {o r w : Nat} {y : Int32} (h1 : g (648 + r) = nI 1) (h2 : nI 0 < y) : bm_hold g o r w y = bm_full g o r w / nI 2 := if_pos ⟨h1, h2⟩
theorem bm_hold_1 {g : Nat → Int32} {o r w : Nat} {y : Int32} (h1 : ¬ g (648 + r) = nI 1) : bm_hold g o r w y = bm_full g o r w := if_neg (fun z => h1 z.1)
theorem bm_hold_2 {g : Nat → Int32} {o r w : Nat} {y : Int32} (h1 : ¬ nI 0 < y) : bm_hold g o r w y = bm_full g o r w := if_neg (fun z => h1 z.2)
theorem bm_full_0 {g : Nat → Int32} {o r : Nat} (h : g o = nI 0) : bm_full g o r 0 = nI 0 := by
  unfold bm_full
  rw [Nat.add_zero, h]
  have e : nI 0 * bm_pos (nI 100 - g (o + 12) * g (630 + r)) = nI 0 := Int32.zero_mul
  rw [e]
  decide +kernel
def bm_grow1 (g : Nat → Int32) (o : Nat) (hd : Int32) (w : Nat) : Int32 := hd * g (o + 6 + w) / nI 10 * g (o + 9 + w) / nI 100
def bm_grows (g : Nat → Int32) (o r w : Nat) (y : Int32) : Int32 := (if w = 5 then g (o + 14) else nI 0) + bm_grow1 g o (bm_hold g o r w y) 0 + bm_grow1 g o (bm_hold g o r w y) 1 + bm_grow1 g o (bm_hold g o r w y) 2
section
variable {d n : Nat} {Q : br_Q} {I : Nat → Nat → Int32} {L : Nat → Nat → Int64}
theorem rs_M_holdOf {g : Nat → Int32} {c o r w : Nat} {y : Int32} {z4 z5 : Option Value} (hg : I 171 = g) (hc : c < 40) (ho : o ≤ 80) (hr : g (667 + c) = nI r) (hr2 : r < 18) (hw : g (787 + c) = nI w) (hw2 : w ≤ 5) (H : Q (some (.int (bm_hold g o r w y))) (br_hp n I L)) :
    br_r d 199 0 [some (.ref 169), some (.int (nI c)), some (.int (nI o)), some (.int y), z4, z5] [] (br_hp n I L) Q := by
  subst hg
  refine rb_M_holdOf_0 ?_
  simp (disch := omega) only [nI_add, nI_clamp, hr, hw, Nat.add_zero]
  refine ⟨vp_in_nI (by omega) (by omega), vp_in_nI (by omega) (by omega), vp_in_nI (by omega) (by omega), vp_in_nI (by omega) (by omega), vp_in_nI (by omega) (by omega), ?_⟩
  have key : ∀ X : Int32, bm_full (I 171) o r w = X → (vp_in (nI (667 + c)) 4167) ∧ ((vp_in (nI (648 + r)) 4167) ∧ (((¬ (I 171 (648 + r)) = (nI 1)) → Q (some (.int X)) (br_hp n I L)) ∧ ((¬ (¬ (I 171 (648 + r)) = (nI 1))) → ((y ≤ nI 0 → Q (some (.int X)) (br_hp n I L)) ∧ (¬ y ≤ nI 0 → Q (some (.int (X / nI 2))) (br_hp n I L)))))) := by
    intro X hX
    refine ⟨vp_in_nI (by omega) (by omega), vp_in_nI (by omega) (by omega), fun h => ?_, fun h => ⟨fun h2 => ?_, fun h2 => ?_⟩⟩
    · rw [bm_hold_1 h, hX] at H; exact H
    · rw [bm_hold_2 (by rw [br_ltT]; rw [br_leT] at h2; omega), hX] at H; exact H
    · rw [bm_hold_T (Classical.not_not.mp h) (by rw [br_ltT]; rw [br_leT] at h2; omega), hX] at H; exact H
  refine ⟨fun h => key _ ?_, fun h => key _ ?_⟩
  · unfold bm_full; rw [bm_pos_T h]
  · unfold bm_full; rw [bm_pos_F h]
theorem rs_M_growsOf {g : Nat → Int32} {c o r w : Nat} {y : Int32} {z4 z5 z6 : Option Value} (hg : I 171 = g) (hc : c < 40) (ho : o ≤ 80) (hr : g (667 + c) = nI r) (hr2 : r < 18) (hw : g (787 + c) = nI w) (hw2 : w ≤ 5) (H : Q (some (.int (bm_grows g o r w y))) (br_hp n I L)) :
    br_r (d + 1) 200 0 [some (.ref 169), some (.int (nI c)), some (.int (nI o)), some (.int y), z4, z5, z6] [] (br_hp n I L) Q := by
  subst hg
  refine rb_M_growsOf_0 (rs_M_holdOf rfl hc ho hr hr2 hw hw2 ?_)
  have key : ∀ X : Int32, (if w = 5 then I 171 (o + 14) else nI 0) = X → br_r (d + 1) 200 41 [some (.ref 169), some (.int (nI c)), some (.int (nI o)), (br_kl (some (.int y))), some (.int (bm_hold (I 171) o r w y)), some (.int X), some (.int (nI 0))] [] (br_hp n I L) Q := by
    intro X hX
    unfold bm_grows at H
    rw [hX] at H
    have one : ∀ (k : Nat) (V : Int32), k < 3 → br_r (d + 1) 200 41 [some (.ref 169), some (.int (nI c)), some (.int (nI o)), (br_kl (some (.int y))), some (.int (bm_hold (I 171) o r w y)), some (.int (V + bm_grow1 (I 171) o (bm_hold (I 171) o r w y) k)), some (.int (nI (k + 1)))] [] (br_hp n I L) Q →
        br_r (d + 1) 200 41 [some (.ref 169), some (.int (nI c)), some (.int (nI o)), (br_kl (some (.int y))), some (.int (bm_hold (I 171) o r w y)), some (.int V), some (.int (nI k))] [] (br_hp n I L) Q := by
      intro k V hk h
      refine rb_M_growsOf_41 (br_f (nI_ge hk (by omega)) ?_)
      simp (disch := omega) only [nI_add, nI_clamp]
      exact ⟨vp_in_nI (by omega) (by omega), vp_in_nI (by omega) (by omega), h⟩
    refine one 0 _ (by omega) (one 1 _ (by omega) (one 2 _ (by omega) ?_))
    exact rb_M_growsOf_41 (br_t (nI_le (Nat.le_refl 3) (by omega)) H)
  refine rb_M_growsOf_7 ?_
  simp (disch := omega) only [nI_add, nI_clamp, hw]
  refine ⟨vp_in_nI (by omega) (by omega), fun h => key _ (if_neg (fun z => h (by rw [z]))), fun h => ?_⟩
  refine ⟨vp_in_nI (by omega) (by omega), key _ (if_pos ?_)⟩
  have h2 := Classical.not_not.mp h
  rwa [nI_eq (by omega) (by omega)] at h2
/-- a law of the class at place p, its numbers behind it -/
def br_lw (n p : Nat) : Prop := br_S0 n p = (0, 2) ∧ br_R0 p 0 = p + 1 ∧ br_S0 n (p + 1) = (1, 18) ∧ 8 ≤ p
/-- it is the model's law at o -/
def br_lr2 (p o : Nat) (I : Nat → Nat → Int32) : Prop := (∀ k, k < 16 → I (p + 1) k = I 171 (o + (1 + k))) ∧ I 171 o = nI 0
theorem rs_Law_hold {p o r w : Nat} {x3 : Int32} {z4 z5 : Option Value} (hp : br_lw n p) (hl : br_lr2 p o I) (hw : w ≤ 5) (H : Q (some (.int (if x3 = nI 0 then bm_full (I 171) o r w else bm_full (I 171) o r w / nI 2))) (br_hp n I L)) :
    br_r (d + 1) 29 0 [some (.ref p), some (.int (nI w)), some (.int (I 171 (630 + r))), some (.int x3), z4, z5] [] (br_hp n I L) Q := by
  obtain ⟨p1, p2, p3, p4⟩ := hp
  obtain ⟨l1, l2⟩ := hl
  refine rb_Law_hold_0 ?_
  by_cases hw0 : w = 0
  · subst hw0
    rw [bm_full_0 l2] at H
    refine br_t (nI_lt (by omega) (by omega)) ?_
    have e : (if x3 = nI 0 then nI 0 else nI 0 / nI 2) = nI 0 := by
      split
      · rfl
      · decide +kernel
    rw [e] at H
    exact H
  · refine br_f (nI_nlt (by omega) (by omega)) (br_t (nI_le hw (by omega)) ?_)
    rw [p1, p2, p3]
    refine ⟨rfl, rfl, vp_in_nI (by omega) (by omega), rs_max (rb_Law_hold_28 ?_)⟩
    rw [p1, p2, pk_sub (by omega)]
    refine ⟨rfl, rs_at_in p3 (by omega) (by omega) (rb_Law_hold_40 ?_)⟩
    rw [bm_pos_max, l1 11 (by omega), l1 (w - 1) (by omega)]
    have e : o + (1 + (w - 1)) = o + w := by omega
    rw [e]
    refine ⟨fun h => ?_, fun h => ?_⟩
    · rw [if_pos h] at H; exact H
    · rw [if_neg h] at H; exact H
theorem rs_Law_gives {p o k : Nat} {x : Int32} (hp : br_lw n p) (hl : br_lr2 p o I) (hk : k < 3) (H : Q (some (.int (x * I 171 (o + 6 + k) / nI 10))) (br_hp n I L)) : br_r (d + 1) 33 0 [some (.ref p), some (.int x), some (.int (nI k))] [] (br_hp n I L) Q := by
  obtain ⟨p1, p2, p3, p4⟩ := hp
  refine rb_Law_gives_0 ?_
  rw [p1, p2, nI_add]
  refine ⟨rfl, rs_at_in p3 (by omega) (by omega) (rb_Law_gives_11 ?_)⟩
  rw [hl.1 (5 + k) (by omega)]
  have e : o + (1 + (5 + k)) = o + 6 + k := by omega
  rw [e]
  exact H
theorem rs_Law_growsBy {p o k : Nat} (hp : br_lw n p) (hl : br_lr2 p o I) (hk : k < 3) (H : Q (some (.int (I 171 (o + 9 + k)))) (br_hp n I L)) : br_r (d + 1) 34 0 [some (.ref p), some (.int (nI k))] [] (br_hp n I L) Q := by
  obtain ⟨p1, p2, p3, p4⟩ := hp
  refine rb_Law_growsBy_0 ?_
  rw [p1, p2, nI_add]
  refine ⟨rfl, rs_at_in p3 (by omega) (by omega) (rb_Law_growsBy_11 ?_)⟩
  rw [hl.1 (8 + k) (by omega)]
  have e : o + (1 + (8 + k)) = o + 9 + k := by omega
  rw [e]
  exact H
theorem rs_Law_growth {p o w : Nat} {x : Int32} {z3 z4 : Option Value} (hp : br_lw n p) (hl : br_lr2 p o I) (hw : w ≤ 5) (H : Q (some (.int ((if w = 5 then I 171 (o + 14) else nI 0) + bm_grow1 (I 171) o x 0 + bm_grow1 (I 171) o x 1 + bm_grow1 (I 171) o x 2))) (br_hp n I L)) :
    br_r (d + 2) 32 0 [some (.ref p), some (.int x), some (.int (nI w)), z3, z4] [] (br_hp n I L) Q := by
  refine rb_Law_growth_0 ?_
  have one : ∀ (k : Nat) (V : Int32), k < 3 → br_r (d + 2) 32 5 [some (.ref p), some (.int x), some (.int (nI w)), some (.int (V + bm_grow1 (I 171) o x k)), some (.int (nI (k + 1)))] [] (br_hp n I L) Q → br_r (d + 2) 32 5 [some (.ref p), some (.int x), some (.int (nI w)), some (.int V), some (.int (nI k))] [] (br_hp n I L) Q := by
    intro k V hk h
    refine rb_Law_growth_5 (br_f (nI_ge hk (by omega)) ⟨hp.1, rs_Law_gives hp hl hk (rb_Law_growth_19 ⟨hp.1, rs_Law_growsBy hp hl hk (rb_Law_growth_25 ?_)⟩)⟩)
    rw [nI_add]
    exact h
  refine one 0 _ (by omega) (one 1 _ (by omega) (one 2 _ (by omega) ?_))
  refine rb_Law_growth_5 (br_t (nI_le (Nat.le_refl 3) (by omega)) ?_)
  obtain ⟨p1, p2, p3, p4⟩ := hp
  rw [p1, p2, p3]
  have e0 : nI 0 + bm_grow1 (I 171) o x 0 + bm_grow1 (I 171) o x 1 + bm_grow1 (I 171) o x 2 + I 171 (o + 14) = I 171 (o + 14) + bm_grow1 (I 171) o x 0 + bm_grow1 (I 171) o x 1 + bm_grow1 (I 171) o x 2 := by
    rw [Int32.add_comm _ (I 171 (o + 14)), ← Int32.add_assoc, ← Int32.add_assoc, ← Int32.add_assoc]
    have : I 171 (o + 14) + nI 0 = I 171 (o + 14) := Int32.add_zero _
    rw [this]
  refine ⟨fun h => ?_, fun h => ⟨rfl, rfl, vp_in_nI (by omega) (by omega), ?_⟩⟩
  · rw [if_neg (fun z => h (by rw [z]))] at H; exact H
  · rw [if_pos] at H
    · rw [hl.1 13 (by omega)]
      have e : o + (1 + 13) = o + 14 := by omega
      rw [e, e0]; exact H
    · have h2 := Classical.not_not.mp h
      rwa [nI_eq (by omega) (by omega)] at h2
/-- a child of the class's world, as the model has it -/
def br_kid (c r w : Nat) (I : Nat → Nat → Int32) : Prop := c < 40 ∧ r < 18 ∧ w ≤ 5 ∧ I 12 c = nI r ∧ I 15 c = nI w ∧ I 10 r = I 171 (630 + r) ∧ I 11 r = I 171 (648 + r) ∧ (I 171 (648 + r) = nI 0 ∨ I 171 (648 + r) = nI 1)
theorem rs_W_weeksOf {c r w : Nat} (hk : br_kid c r w I) (H : Q (some (.int (I 171 (630 + r)))) (br_hp n I L)) : br_r (d + 1) 27 0 [some (.ref 9), some (.int (nI c))] [] (br_hp n I L) Q := by
  obtain ⟨hc, hr, hw, e1, e2, e3, e4, e5⟩ := hk
  refine rb_World_weeksOf_0 (rs_at_in (l := 40) rfl hc (by omega) ?_)
  rw [e1]
  refine rb_World_weeksOf_12 (rs_at_in (l := 18) rfl hr (by omega) (rb_World_weeksOf_15 ?_))
  rw [e3]
  exact H
theorem rs_W_forgetsOf {c r w : Nat} {z2 : Option Value} (hk : br_kid c r w I) (H : Q (some (.int (I 171 (648 + r)))) (br_hp n I L)) : br_r (d + 1) 28 0 [some (.ref 9), some (.int (nI c)), z2] [] (br_hp n I L) Q := by
  obtain ⟨hc, hr, hw, e1, e2, e3, e4, e5⟩ := hk
  refine rb_World_forgetsOf_0 (rs_at_in (l := 40) rfl hc (by omega) ?_)
  rw [e1]
  refine rb_World_forgetsOf_8 (br_f (nI_pos (by omega)) (br_f (nI_ge (b := 18) hr (by omega)) ⟨vp_in_nI hr (by omega), ?_⟩))
  rw [nI_clamp (by omega), e4]
  rcases e5 with e5 | e5
  · rw [e5] at H ⊢; exact br_t rfl H
  · rw [e5] at H ⊢; exact br_f br_10 H
theorem rs_W_holdOf {p o c r w : Nat} {y : Int32} (hp : br_lw n p) (hl : br_lr2 p o I) (hk : br_kid c r w I) (H : Q (some (.int (bm_hold (I 171) o r w y))) (br_hp n I L)) :
    br_r (d + 2) 25 0 [some (.ref 9), some (.ref p), some (.int (nI c)), some (.int y)] [] (br_hp n I L) Q := by
  have hk' := hk
  obtain ⟨hc, hr, hw, e1, e2, e3, e4, e5⟩ := hk'
  refine rb_World_holdOf_0 (rs_at_in (l := 40) rfl hc (by omega) ?_)
  rw [e2]
  refine rb_World_holdOf_9 (rs_W_weeksOf hk (rb_World_holdOf_14 ⟨fun h => ⟨hp.1, rs_Law_hold hp hl hw (rb_World_holdOf_35 ?_)⟩, fun h => rs_W_forgetsOf hk (rb_World_holdOf_24 ⟨fun h2 => ⟨hp.1, rs_Law_hold hp hl hw (rb_World_holdOf_35 ?_)⟩, fun h2 => ⟨hp.1, rs_Law_hold hp hl hw (rb_World_holdOf_35 ?_)⟩⟩)⟩))
  · rw [if_pos rfl]
    rw [bm_hold_2 (by rw [br_ltT] at h ⊢; rw [nI_toInt (by omega)] at h ⊢; omega)] at H
    exact H
  · rw [if_pos rfl]
    rw [bm_hold_1 (by rw [h2]; exact fun z => br_10 z.symm)] at H
    exact H
  · rw [if_neg br_10]
    rw [bm_hold_T (by rcases e5 with e5 | e5; exact absurd e5 h2; exact e5) (by rw [br_ltT] at h ⊢; rw [nI_toInt (by omega)] at h ⊢; omega)] at H
    exact H
theorem rs_W_growthOf {p o c r w : Nat} {y : Int32} (hp : br_lw n p) (hl : br_lr2 p o I) (hk : br_kid c r w I) (H : Q (some (.int (bm_grows (I 171) o r w y))) (br_hp n I L)) :
    br_r (d + 3) 31 0 [some (.ref 9), some (.ref p), some (.int (nI c)), some (.int y)] [] (br_hp n I L) Q := by
  have hk' := hk
  obtain ⟨hc, hr, hw, e1, e2, e3, e4, e5⟩ := hk'
  refine rb_World_growthOf_0 (rs_W_holdOf hp hl hk (rb_World_growthOf_8 (rs_at_in (l := 40) rfl hc (by omega) ?_)))
  rw [e2]
  exact rb_World_growthOf_16 ⟨hp.1, rs_Law_growth hp hl hw (rb_World_growthOf_19 H)⟩
end
