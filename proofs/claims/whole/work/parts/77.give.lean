set_option maxRecDepth 100000
set_option maxHeartbeats 4000000
/-! a test is given -/
def bg_e (g : Nat → Int32) (kn : Int32) (c : Nat) : Bool := !decide (kn = nI 0) && decide (g (787 + c) = nI 4)
def bg_X (g : Nat → Int32) (kn : Int32) (c x : Nat) : Int32 := g (747 + c) + (nI x - nI x / (nI 2 * g 16 + nI 1) * (nI 2 * g 16 + nI 1)) - g 16 + (if bg_e g kn c = true then g 15 else nI 0)
def bg_v (g : Nat → Int32) (kn : Int32) (c x : Nat) : Int32 := bm_kept (br_max (br_min (bg_X g kn c x) (g 18)) (g 17)) 200
abbrev bg_T : Type := Nat × Int32 × (Nat → Int32)
def bg_st (g : Nat → Int32) (kn : Int32) (q : bg_T) : Nat → bg_T
  | 0 => q
  | k + 1 => if g (827 + k) = nI 0 then ((bg_st g kn q k).1 + 1, bd_nx (bg_st g kn q k).2.1, br_v (bg_st g kn q k).2.2 k (bg_v g kn k (bd_x (bd_nx (bg_st g kn q k).2.1)))) else ((bg_st g kn q k).1, (bg_st g kn q k).2.1, br_v (bg_st g kn q k).2.2 k (-(nI 1)))
theorem bg_st_T {g : Nat → Int32} {kn : Int32} {q : bg_T} {k : Nat} (h : g (827 + k) = nI 0) : bg_st g kn q (k + 1) = ((bg_st g kn q k).1 + 1, bd_nx (bg_st g kn q k).2.1, br_v (bg_st g kn q k).2.2 k (bg_v g kn k (bd_x (bd_nx (bg_st g kn q k).2.1)))) := if_pos h
theorem bg_st_F {g : Nat → Int32} {kn : Int32} {q : bg_T} {k : Nat} (h : ¬ g (827 + k) = nI 0) : bg_st g kn q (k + 1) = ((bg_st g kn q k).1, (bg_st g kn q k).2.1, br_v (bg_st g kn q k).2.2 k (-(nI 1))) := if_neg h
theorem bg_st_n {g : Nat → Int32} {kn : Int32} {q : bg_T} : ∀ k, (bg_st g kn q k).1 ≤ q.1 + k
  | 0 => Nat.le_refl _
  | k + 1 => by
    have ih := bg_st_n (g := g) (kn := kn) (q := q) k
    by_cases h : g (827 + k) = nI 0
    · rw [bg_st_T h]; simp only; omega
    · rw [bg_st_F h]; simp only; omega
theorem bg_v_b {g : Nat → Int32} {kn : Int32} {c x : Nat} : -1 ≤ (bg_v g kn c x).toInt ∧ (bg_v g kn c x).toInt ≤ 200 := by
  have := bm_keptT (x := br_max (br_min (bg_X g kn c x) (g 18)) (g 17)) (h := 200) (by omega)
  unfold bg_v; omega
theorem bg_st_v {g : Nat → Int32} {kn : Int32} {q : bg_T} (hq : ∀ c, -1 ≤ (q.2.2 c).toInt ∧ (q.2.2 c).toInt ≤ 200) (c : Nat) : ∀ k, (k ≤ c → (bg_st g kn q k).2.2 c = q.2.2 c) ∧ -1 ≤ ((bg_st g kn q k).2.2 c).toInt ∧ ((bg_st g kn q k).2.2 c).toInt ≤ 200
  | 0 => ⟨fun _ => rfl, hq c⟩
  | k + 1 => by
    have ih := bg_st_v (g := g) (kn := kn) hq c k
    have zm : (-(nI 1)).toInt = -1 := br_negT (by omega)
    by_cases h : g (827 + k) = nI 0
    · rw [bg_st_T h]
      simp only
      by_cases e : c = k
      · subst e; rw [br_v_s]; exact ⟨fun z => absurd z (by omega), bg_v_b⟩
      · rw [br_v_j e]; exact ⟨fun z => ih.1 (by omega), ih.2⟩
    · rw [bg_st_F h]
      simp only
      by_cases e : c = k
      · subst e; rw [br_v_s, zm]; exact ⟨fun z => absurd z (by omega), by omega, by omega⟩
      · rw [br_v_j e]; exact ⟨fun z => ih.1 (by omega), ih.2⟩
/-- memories that differ in a row alone -/
def bg_A (a b : Nat) (I : Nat → Nat → Int32) (w : Nat → Int32) (J : Nat → Nat → Int32) : Prop := (∀ p j, ¬ (p = 169 ∧ j = 18) → ¬ (p = a ∧ b ≤ j ∧ j < b + 40) → J p j = I p j) ∧ ∀ c, c < 40 → J a (b + c) = w c
theorem bg_A_u {a b : Nat} {I J : Nat → Nat → Int32} {w : Nat → Int32} {c : Nat} {x : Int32} (ha : a ≠ 169) (hc : c < 40) (h : bg_A a b I w J) : bg_A a b I (br_v w c x) (br_u J a (b + c) x) := by
  refine ⟨fun p j h1 h2 => ?_, fun e he => ?_⟩
  · rw [br_u_n (by omega)]; exact h.1 p j h1 h2
  · by_cases ec : e = c
    · subst ec; rw [br_u_s, br_v_s]
    · rw [br_u_n (by omega), br_v_j ec]; exact h.2 e he
theorem bg_A_uu {a b : Nat} {I J : Nat → Nat → Int32} {w : Nat → Int32} {c : Nat} {x y z : Int32} (ha : a ≠ 169) (hc : c < 40) (h : bg_A a b I w J) : bg_A a b I (br_v w c x) (br_u (br_u (br_u J a (b + c) y) 169 18 z) a (b + c) x) := by
  refine ⟨fun p j h1 h2 => ?_, fun e he => ?_⟩
  · rw [br_u_n (by omega), br_u_n (by omega), br_u_n (by omega)]; exact h.1 p j h1 h2
  · by_cases ec : e = c
    · subst ec; rw [br_u_s, br_v_s]
    · rw [br_u_n (by omega), br_u_n (by omega), br_u_n (by omega), br_v_j ec]; exact h.2 e he
theorem bg_A_u2 {a b : Nat} {I J : Nat → Nat → Int32} {w : Nat → Int32} {c : Nat} {x y : Int32} (ha : a ≠ 169) (hc : c < 40) (h : bg_A a b I w J) : bg_A a b I (br_v w c x) (br_u (br_u J a (b + c) y) a (b + c) x) := by
  refine ⟨fun p j h1 h2 => ?_, fun e he => ?_⟩
  · rw [br_u_n (by omega), br_u_n (by omega)]; exact h.1 p j h1 h2
  · by_cases ec : e = c
    · subst ec; rw [br_u_s, br_v_s]
    · rw [br_u_n (by omega), br_u_n (by omega), br_v_j ec]; exact h.2 e he
theorem br_min_T {x y : Int32} (h : x ≤ y) : br_min x y = x := Int32.toInt_inj.mp (by rw [br_minT]; rw [br_leT] at h; omega)
theorem br_min_F {x y : Int32} (h : ¬ x ≤ y) : br_min x y = y := Int32.toInt_inj.mp (by rw [br_minT]; rw [br_leT] at h; omega)
theorem br_max_T {x y : Int32} (h : y ≤ x) : br_max x y = x := Int32.toInt_inj.mp (by rw [br_maxT]; rw [br_leT] at h; omega)
theorem br_max_F {x y : Int32} (h : ¬ y ≤ x) : br_max x y = y := Int32.toInt_inj.mp (by rw [br_maxT]; rw [br_leT] at h; omega)
theorem br_min_c {x y : Int32} : br_min x y = br_min y x := Int32.toInt_inj.mp (by rw [br_minT, br_minT]; omega)
theorem br_max_c {x y : Int32} : br_max x y = br_max y x := Int32.toInt_inj.mp (by rw [br_maxT, br_maxT]; omega)
section
variable {d n : Nat} {Q : br_Q} {I J : Nat → Nat → Int32} {L : Nat → Nat → Int64} {g w : Nat → Int32} {N c : Nat}
theorem rs_pointsOf {x : Nat} {kn : Int32} {b : Int32} {z4 z5 : Option Value} (hb : b = nI (bg_e g kn c).toNat) (h16 : 0 ≤ (g 16).toInt ∧ (g 16).toInt ≤ 20) (e14 : J 26 14 = g 15) (e15 : J 26 15 = g 16) (e16 : J 26 16 = g 17) (e17 : J 26 17 = g 18) (H : Q (some (.int (bg_v g kn c x))) (br_hp n J L)) :
    br_r (d + 1) 85 0 [some (.ref 25), some (.int (g (747 + c))), some (.int (nI x)), some (.int b), z4, z5] [] (br_hp n J L) Q := by
  have z0 : (nI 0).toInt = 0 := nI_toInt (by omega)
  obtain ⟨nz, enz, hnz⟩ := br_nN h16.1
  have en : br_max (nI 0) (J 26 15) = g 16 := by
    rw [e15]; apply Int32.toInt_inj.mp; rw [br_maxT, z0]; omega
  refine rb_Law_pointsOf_0 ⟨rfl, rb_Law_noise_0 ⟨rfl, rfl, vp_in_nI (n := 15) (N := 18) (by omega) (by omega), rb_Law_pointsOf_5 (rs_max ?_)⟩⟩
  show br_r (d + 1) 85 8 _ [.int (br_max (nI 0) (J 26 15))] _ _
  rw [en]
  have ne : ¬ nI 2 * g 16 + nI 1 = 0 := by
    rw [enz, pk_mul, nI_add]; exact nI_ne0 (by omega) (by omega)
  have key : ∀ (z5 : Option Value) (y : Int32), y = bg_X g kn c x → br_r (d + 1) 85 53 [some (.ref 25), some (.int (g (747 + c))), some (.int (nI x)), some (.int b), some (.int (g 16)), z5] [.int (br_min y (J 26 17))] (br_hp n J L) Q := by
    intro z5 y hy
    subst hy
    refine rb_Law_pointsOf_53 ⟨rfl, rfl, vp_in_nI (n := 16) (N := 18) (by omega) (by omega), rs_max (rb_Law_pointsOf_63 (rs_min (rb_Law_pointsOf_74 (rs_max (rb_Law_pointsOf_77 ?_)))))⟩
    show Q (some (.int (br_max (nI 0) (br_min (nI 200) (br_max (br_min (bg_X g kn c x) (J 26 17)) (J 26 16)))))) _
    rw [e16, e17]; exact H
  refine rb_Law_pointsOf_8 ⟨ne, fun h => ⟨rfl, rfl, vp_in_nI (n := 17) (N := 18) (by omega) (by omega), rs_min (key _ _ ?_)⟩, fun h => ⟨rfl, rfl, vp_in_nI (n := 14) (N := 18) (by omega) (by omega), rfl, rfl, vp_in_nI (n := 17) (N := 18) (by omega) (by omega), rs_min (key _ _ ?_)⟩⟩
  · rw [hb] at h
    unfold bg_X; rw [bd_b0 h, if_neg Bool.false_ne_true]
    exact (Int32.add_zero _).symm
  · rw [hb] at h
    unfold bg_X; rw [bd_b1 h, if_pos rfl]
    show _ + J 26 14 = _
    rw [e14]
theorem rs_W_give {t : Nat} {s : Int32} {kn : Int32} {w : Nat → Int32} {z4 z5 z6 : Option Value} (ht : t < 6) (hN : N ≤ 40) (hW : br_W 9 0 I) (cN : I 9 8 = nI N) (hg : I 171 = g) (hA : bg_A (18 + t) 0 I w J)
    (H : ∀ J', bg_A (18 + t) 0 I (bg_st g kn (0, s, w) N).2.2 J' → Q (some (.int (nI (bg_st g kn (0, s, w) N).1))) (br_hp n (br_u J' 24 t (J' 9 9)) L)) :
    br_r (d + 2) 83 0 [some (.ref 9), some (.int (nI t)), some (.int s), some (.int kn), z4, z5, z6] [] (br_hp n J L) Q := by
  have h16 := bb_lawnoise hW.1
  rw [Nat.zero_add, hg] at h16
  have loop : ∀ k c (J : Nat → Nat → Int32) (z2 : Option Value), c + k = N → bg_A (18 + t) 0 I (bg_st g kn (0, s, w) c).2.2 J →
      br_r (d + 2) 83 9 [some (.ref 9), some (.int (nI t)), z2, some (.int kn), some (.int (bg_st g kn (0, s, w) c).2.1), some (.int (nI (bg_st g kn (0, s, w) c).1)), some (.int (nI c))] [] (br_hp n J L) Q := by
    intro k
    induction k with
    | zero =>
      intro c J z2 hc hA
      have : c = N := by omega
      subst this
      refine rb_World_giveTest_9 (br_t (by rw [hA.1 9 8 (by omega) (by omega), cN]; exact nI_le (Nat.le_refl _) (by omega)) ⟨vp_in_nI (by omega) (by omega), ?_⟩)
      rw [nI_clamp (by omega)]
      exact H J hA
    | succ k ih =>
      intro c J z2 hc hA
      have h1 := fun (J : Nat → Nat → Int32) => ih (c + 1) J z2 (by omega)
      have stT := bg_st_T (g := g) (kn := kn) (q := (0, s, w)) (k := c)
      have stF := bg_st_F (g := g) (kn := kn) (q := (0, s, w)) (k := c)
      have hn := bg_st_n (g := g) (kn := kn) (q := (0, s, w)) c
      generalize bg_st g kn (0, s, w) (c + 1) = q1 at h1 stT stF
      generalize bg_st g kn (0, s, w) c = q at stT stF hA hn ⊢
      obtain ⟨m, ss, ww⟩ := q
      simp only at hA stT stF hn ⊢
      have e16 : J 16 c = g (827 + c) := by rw [hA.1 16 c (by omega) (by omega), ← hg]; exact bi_gone hW.1 (by omega)
      have e14 : J 14 c = g (747 + c) := by rw [hA.1 14 c (by omega) (by omega), ← hg]; exact bi_gift hW.1 (by omega)
      have e15 : J 15 c = g (787 + c) := by rw [hA.1 15 c (by omega) (by omega), ← hg]; exact bi_word hW.1 (by omega)
      have r17 := br_R17 ht
      have s17 := br_S17 (n := n) ht
      refine rb_World_giveTest_9 (br_f (by rw [hA.1 9 8 (by omega) (by omega), cN]; exact nI_ge (by omega) (by omega)) ?_)
      rw [nI_clamp (by omega), nI_clamp (by omega), r17, s17, br_u_n (by omega), e16]
      refine ⟨vp_in_nI (by omega) (by omega), rfl, by omega, vp_in_nI (by omega) (by omega), vp_in_nI (by omega) (by omega), fun h => ?_, fun h => ?_⟩
      · have e := stF h
        subst e
        rw [nI_add]
        refine h1 _ ?_
        have := bg_A_u (c := c) (x := -(nI 1)) (by omega) (by omega) hA
        rw [Nat.zero_add] at this; exact this
      · have e := stT (Classical.not_not.mp h)
        subst e
        have hA2 := bg_A_u (c := c) (x := -(nI 1)) (by omega) (by omega) hA
        rw [Nat.zero_add] at hA2
        refine rb_World_draw_0 (rb_World_giveTest_43 ?_)
        have er : nI 1103515245 * ss + nI 12345 = bd_nx ss := rfl
        rw [er, bd_xe, nI_clamp (by omega), nI_clamp (by omega), r17, br_u_n (by omega), br_u_n (by omega), e14, e15]
        have law : ∀ j, j < 18 → br_u J (18 + t) c (-(nI 1)) 26 j = I 26 j := fun j _ => by rw [br_u_n (by omega)]; exact hA.1 26 j (by omega) (by omega)
        have l14 : I 26 14 = g 15 := by rw [← hg]; exact bi_lawfifty hW.1 (j := 2) (by omega)
        have l15 : I 26 15 = g 16 := by rw [← hg]; exact bi_lawnoise hW.1
        have l16 : I 26 16 = g 17 := by rw [← hg]; exact bi_lawfr hW.1 (j := 0) (by omega)
        have l17 : I 26 17 = g 18 := by rw [← hg]; exact bi_lawfr hW.1 (j := 1) (by omega)
        have go : ∀ b, b = nI (bg_e g kn c).toNat → br_r (d + 1) 85 0 [some (.ref 25), some (.int (g (747 + c))), some (.int (nI (bd_x (bd_nx ss)))), some (.int b), none, none] [] (br_hp n (br_u J (18 + t) c (-(nI 1))) L) (fun v h => br_r (d + 2) 83 92 [some (.ref 9), some (.int (nI t)), z2, some (.int kn), some (.int (bd_nx ss)), some (.int (nI m)), some (.int (nI c))] (v.toList ++ [.int (nI c), .ref (18 + t)]) (br_bk h) Q) := by
          intro b hb
          refine rs_pointsOf hb h16 ((law 14 (by omega)).trans l14) ((law 15 (by omega)).trans l15) ((law 16 (by omega)).trans l16) ((law 17 (by omega)).trans l17) (rb_World_giveTest_92 ?_)
          rw [s17, nI_clamp (by omega), nI_add, nI_add]
          refine ⟨rfl, by omega, vp_in_nI (by omega) (by omega), h1 _ ?_⟩
          have := bg_A_u2 (c := c) (x := bg_v g kn c (bd_x (bd_nx ss))) (y := -(nI 1)) (by omega) (by omega) hA
          rw [Nat.zero_add] at this; exact this
        refine ⟨vp_in_nI (by omega) (by omega), vp_in_nI (by omega) (by omega), fun h5 => go _ ?_, fun h5 => ⟨vp_in_nI (by omega) (by omega), fun h6 => go _ ?_, fun h6 => go _ ?_⟩⟩
        · unfold bg_e; rw [decide_eq_true h5]; rfl
        · unfold bg_e; rw [decide_eq_false h6, Bool.and_false]; rfl
        · unfold bg_e; rw [decide_eq_true (Classical.not_not.mp h6), decide_eq_false h5]; rfl
  exact rb_World_giveTest_0 (loop N 0 J _ (by omega) hA)
theorem bg_Mg {a : Nat} {w : Nat → Int32} (hg : I 171 = g) (hM : bg_A 171 a I w J) {k : Nat} (hk : ¬ (a ≤ k ∧ k < a + 40)) : J 171 k = g k := by rw [hM.1 171 k (by omega) (by omega), hg]
theorem rs_M_give {t : Nat} {s : Int32} {kn : Int32} {w : Nat → Int32} {z2 z6 z7 : Option Value} (ht : t < 6) (hN : N ≤ 40) (h16 : 0 ≤ (g 16).toInt ∧ (g 16).toInt ≤ 20) (hgn : ∀ c, c < 40 → g (827 + c) = nI 0 ∨ g (827 + c) = nI 1) (eN : g 666 = nI N) (hg : I 171 = g) (hM : bg_A 171 (867 + 40 * t) I w J) (hs : J 169 18 = s)
    (H : ∀ J', bg_A 171 (867 + 40 * t) I (bg_st g kn (0, s, w) N).2.2 J' → Q (some (.int (nI (bg_st g kn (0, s, w) N).1))) (br_hp n (br_u J' 171 (1107 + t) (J' 171 1113)) L)) :
    br_r (d + 1) 225 30 [some (.ref 169), some (.int (nI t)), z2, some (.int kn), some (.int (nI 0)), some (.int (nI 0)), z6, z7] [] (br_hp n J L) Q := by
  have loop : ∀ k c (J : Nat → Nat → Int32) (z2 z6 z7 : Option Value), c + k = N → bg_A 171 (867 + 40 * t) I (bg_st g kn (0, s, w) c).2.2 J → J 169 18 = (bg_st g kn (0, s, w) c).2.1 →
      br_r (d + 1) 225 30 [some (.ref 169), some (.int (nI t)), z2, some (.int kn), some (.int (nI (bg_st g kn (0, s, w) c).1)), some (.int (nI c)), z6, z7] [] (br_hp n J L) Q := by
    intro k
    induction k with
    | zero =>
      intro c J z2 z6 z7 hc hM hs
      have : c = N := by omega
      subst this
      refine rb_M_give_30 (br_t (by rw [bg_Mg hg hM (by omega), eN]; exact nI_le (Nat.le_refl _) (by omega)) ?_)
      rw [nI_add, nI_clamp (by omega)]
      exact ⟨vp_in_nI (by omega) (by omega), H J hM⟩
    | succ k ih =>
      intro c J z2 z6 z7 hc hM hs
      have h1 := fun (J : Nat → Nat → Int32) (z6 z7 : Option Value) => ih (c + 1) J z2 z6 z7 (by omega)
      have stT := bg_st_T (g := g) (kn := kn) (q := (0, s, w)) (k := c)
      have stF := bg_st_F (g := g) (kn := kn) (q := (0, s, w)) (k := c)
      have hn := bg_st_n (g := g) (kn := kn) (q := (0, s, w)) c
      generalize bg_st g kn (0, s, w) (c + 1) = q1 at h1 stT stF
      generalize bg_st g kn (0, s, w) c = q at stT stF hM hs hn ⊢
      obtain ⟨m, ss, ww⟩ := q
      simp only at hM hs stT stF hn ⊢
      have ea : 867 + 40 * t + c = 867 + (40 * t + c) := by omega
      have e27 := bg_Mg (k := 827 + c) hg hM (by omega)
      have e47 := bg_Mg (k := 747 + c) hg hM (by omega)
      have hM2 := bg_A_u (c := c) (x := -(nI 1)) (by omega) (by omega) hM
      refine rb_M_give_30 (br_f (by rw [bg_Mg hg hM (by omega), eN]; exact nI_ge (by omega) (by omega)) ?_)
      rw [pk_mul, nI_add, nI_add, nI_add, nI_add, nI_clamp (by omega), nI_clamp (by omega), nI_clamp (by omega), br_u_n (by omega), br_u_n (by omega), e27, e47]
      refine ⟨vp_in_nI (by omega) (by omega), vp_in_nI (by omega) (by omega), fun h => ⟨vp_in_nI (by omega) (by omega), ?_⟩, fun h => ?_⟩
      · have h0 : g (827 + c) = nI 0 := by
          rcases hgn c (by omega) with h2 | h2
          · exact h2
          · exact absurd h2 h
        have e := stT h0
        subst e
        refine rb_M_draw_0 ?_
        rw [br_u_s, br_u_n (by omega), hs]
        refine rb_M_give_97 ?_
        have er : nI 1103515245 * ss + nI 12345 = bd_nx ss := rfl
        rw [er, bd_xe]
        have rd : ∀ k, ¬ (867 + 40 * t ≤ k ∧ k < 867 + 40 * t + 40) → br_u (br_u J 171 (867 + 40 * t + c) (-(nI 1))) 169 18 (bd_nx ss) 171 k = g k := fun k hk => by
          rw [br_u_n (by omega), br_u_n (by omega)]; exact bg_Mg hg hM hk
        rw [rd 16 (by omega), rd 17 (by omega), rd 18 (by omega), rd 15 (by omega), nI_add 787 c, nI_clamp (by omega), rd (787 + c) (by omega)]
        have fin : ∀ (y : Int32) (z : Option Value), y = br_max (br_min (bg_X g kn c (bd_x (bd_nx ss))) (g 18)) (g 17) → br_r d 224 0 [some (.int y), some (.int (nI 0)), some (.int (nI 200))] [] (br_hp n (br_u (br_u J 171 (867 + 40 * t + c) (-(nI 1))) 169 18 (bd_nx ss)) L) (fun v h => br_r (d + 1) 225 218 [some (.ref 169), some (.int (nI t)), z2, some (.int kn), some (.int (nI m)), some (.int (nI c)), some (.int (nI (867 + 40 * t + c))), z] (v.toList ++ [(.int (nI (867 + 40 * t + c))), (.ref 171)]) (br_bk h) Q) := by
          intro y z hy
          subst hy
          refine rs_kept (by omega) (rb_M_give_218 ?_)
          rw [nI_add, nI_add, nI_clamp (by omega)]
          refine ⟨vp_in_nI (by omega) (by omega), h1 _ _ _ (bg_A_uu (c := c) (x := bg_v g kn c (bd_x (bd_nx ss))) (y := -(nI 1)) (z := bd_nx ss) (by omega) (by omega) hM) ?_⟩
          rw [br_u_n (by omega), br_u_s]
        have four : ∀ (e : Int32), e = (if bg_e g kn c = true then g 15 else nI 0) →
            (g (747 + c) + (nI (bd_x (bd_nx ss)) - nI (bd_x (bd_nx ss)) / (nI 2 * g 16 + nI 1) * (nI 2 * g 16 + nI 1)) - g 16 + e) = bg_X g kn c (bd_x (bd_nx ss)) := fun e he => by subst he; rfl
        have ne : ¬ nI 2 * g 16 + nI 1 = 0 := by
          obtain ⟨nz, enz, hnz⟩ := br_nN h16.1
          rw [enz, pk_mul, nI_add]; exact nI_ne0 (by omega) (by omega)
        have c0 : kn = nI 0 → nI 0 = (if bg_e g kn c = true then g 15 else nI 0) := fun h5 => by
          have : bg_e g kn c = false := by unfold bg_e; rw [decide_eq_true h5]; rfl
          rw [this, if_neg Bool.false_ne_true]
        have c1 : ¬ kn = nI 0 → ¬ g (787 + c) = nI 4 → nI 0 = (if bg_e g kn c = true then g 15 else nI 0) := fun h5 h6 => by
          have : bg_e g kn c = false := by unfold bg_e; rw [decide_eq_false h6, Bool.and_false]
          rw [this, if_neg Bool.false_ne_true]
        have c2 : ¬ kn = nI 0 → g (787 + c) = nI 4 → g 15 = (if bg_e g kn c = true then g 15 else nI 0) := fun h5 h6 => by
          have : bg_e g kn c = true := by unfold bg_e; rw [decide_eq_true h6, decide_eq_false h5]; rfl
          rw [this, if_pos rfl]
        refine ⟨ne, fun h5 => ?_, fun h5 => ⟨vp_in_nI (by omega) (by omega), fun h6 => ?_, fun h6 => ?_⟩⟩
        · rw [four _ (c0 h5)]
          exact ⟨fun a => ⟨fun b => fin _ _ (by rw [br_min_T a, br_max_T b]), fun b => fin _ _ (by rw [br_min_T a, br_max_F b])⟩, fun a => ⟨fun b => fin _ _ (by rw [br_min_F a, br_max_T b]), fun b => fin _ _ (by rw [br_min_F a, br_max_F b])⟩⟩
        · rw [four _ (c1 h5 h6)]
          exact ⟨fun a => ⟨fun b => fin _ _ (by rw [br_min_T a, br_max_T b]), fun b => fin _ _ (by rw [br_min_T a, br_max_F b])⟩, fun a => ⟨fun b => fin _ _ (by rw [br_min_F a, br_max_T b]), fun b => fin _ _ (by rw [br_min_F a, br_max_F b])⟩⟩
        · rw [four _ (c2 h5 (Classical.not_not.mp h6))]
          exact ⟨fun a => ⟨fun b => fin _ _ (by rw [br_min_T a, br_max_T b]), fun b => fin _ _ (by rw [br_min_T a, br_max_F b])⟩, fun a => ⟨fun b => fin _ _ (by rw [br_min_F a, br_max_T b]), fun b => fin _ _ (by rw [br_min_F a, br_max_F b])⟩⟩
      · have e := stF (fun z => by rw [Classical.not_not.mp h] at z; exact br_10 z)
        subst e
        rw [nI_add]
        exact h1 _ _ _ hM2 (by rw [br_u_n (by omega)]; exact hs)
  exact loop N 0 J _ _ _ (by omega) hM hs
end
section
variable {n : Nat} {xs : Nat → Int32} {I : Nat → Nat → Int32} {L : Nat → Nat → Int64}
theorem br_pt_in {t : Nat} (ht : t < 6) : ((9 + t, 0, 40, 867 + 40 * t, -1, 200) : br_Rw) ∈ br_rows := by
  rcases (by omega : t = 0 ∨ t = 1 ∨ t = 2 ∨ t = 3 ∨ t = 4 ∨ t = 5) with rfl | rfl | rfl | rfl | rfl | rfl <;> decide +kernel
theorem bp_give (hI : br_Inv xs I L) (x1 x2 x3 : Int32) (hx3 : x3 = nI 0 ∨ x3 = nI 1) : br_pair n xs 81 225 [some (.ref 8), some (.int x1), some (.int x2), some (.int x3)] [some (.ref 169), some (.int x1), some (.int x2), some (.int x3), none, none, none, none] I L := by
  obtain ⟨N, R, hN, hR, eN, eR, a3, a4, a5⟩ := hI.1.2.1
  rw [Nat.zero_add] at eN eR
  have cN : I 9 8 = nI N := (bi_children hI.1.1).trans eN
  have cR : I 9 2 = nI R := (bi_rooms hI.1.1).trans eR
  by_cases h1 : 0 ≤ x1.toInt ∧ x1.toInt < 6
  · obtain ⟨t, ht, rfl⟩ := br_of (N := 6) (br_inT.mpr h1)
    have h16 := bb_lawnoise hI.1.1
    rw [Nat.zero_add] at h16
    have A0 : bg_A (18 + t) 0 I (fun c => I 171 (867 + (40 * t + c))) I := ⟨fun _ _ _ _ => rfl, fun c hc => by rw [Nat.zero_add]; exact br_ptW hI.1 ht hc⟩
    have hgn : ∀ c, c < 40 → I 171 (827 + c) = nI 0 ∨ I 171 (827 + c) = nI 1 := fun c hc => by
      have := bb_gone hI.1.1 (j := c) hc
      rw [Nat.zero_add] at this
      obtain ⟨k, ek, hk⟩ := br_nN this.1
      rw [ek]
      rcases (by omega : k = 0 ∨ k = 1) with rfl | rfl
      · exact Or.inl rfl
      · exact Or.inr rfl
    intro d Q K
    refine rb_A_give_0 (rs_noTest_F ?_ (rb_A_give_4 (br_t rfl (rs_W_give ht hN hI.1 cN rfl A0 (fun J hA => rb_A_give_23 (K _ _ _ (fun j => ?_) (fun d' Q' k' => ?_)))))))
    · exact h1
    · rw [br_u_n (by omega)]; exact hA.1 1 j (by omega) (by omega)
    have rdJ : ∀ p j, ¬ (p = 169 ∧ j = 18) → ¬ (p = 18 + t ∧ j < 40) → ¬ (p = 24 ∧ j = t) → br_u J 24 t (J 9 9) p j = I p j := fun p j q1 q2 q3 => by
      rw [br_u_n (by omega)]; exact hA.1 p j q1 (by omega)
    generalize hK : br_u (br_u (br_u J 24 t (J 9 9)) 169 0 (nI 0)) 169 18 x2 = M0
    have rd0 : ∀ p j, ¬ (p = 169 ∧ (j = 0 ∨ j = 18)) → ¬ (p = 18 + t ∧ j < 40) → ¬ (p = 24 ∧ j = t) → M0 p j = I p j := fun p j q1 q2 q3 => by
      rw [← hK, br_u_n (by omega), br_u_n (by omega)]; exact rdJ p j (by omega) q2 q3
    have g171 : M0 171 = I 171 := by funext j; exact rd0 171 j (by omega) (by omega) (by omega)
    have M00 : bg_A 171 (867 + 40 * t) M0 (fun c => I 171 (867 + (40 * t + c))) M0 := ⟨fun _ _ _ _ => rfl, fun c hc => by rw [g171, Nat.add_assoc]⟩
    refine rb_M_give_0 (rs_isTest_T ?_ (rb_M_give_9 (br_t br_10 ?_)))
    · exact h1
    rw [hK]
    refine rs_M_give (g := I 171) ht hN h16 hgn eN g171 M00 (by rw [← hK, br_u_s]) (fun M hM => k' _ _ ?_)
    have b0 : ∀ c, -1 ≤ (I 171 (867 + (40 * t + c))).toInt ∧ (I 171 (867 + (40 * t + c))).toInt ≤ 200 ∨ 40 ≤ c := fun c => by
      by_cases hc : c < 40
      · exact Or.inl (br_ptb hI.1 ht hc)
      · exact Or.inr (by omega)
    generalize hw : (bg_st (I 171) x3 (0, x2, fun c => I 171 (867 + (40 * t + c))) N).2.2 = w at hA hM
    have wv : ∀ c, c < 40 → (N ≤ c → w c = I 171 (867 + (40 * t + c))) ∧ -1 ≤ (w c).toInt ∧ (w c).toInt ≤ 200 := fun c hc => by
      have e : ∀ k, k ≤ 40 → (bg_st (I 171) x3 (0, x2, fun c => I 171 (867 + (40 * t + c))) k).2.2 c = (bg_st (I 171) x3 (0, x2, fun c => if c < 40 then I 171 (867 + (40 * t + c)) else nI 0) k).2.2 c ∧ (bg_st (I 171) x3 (0, x2, fun c => I 171 (867 + (40 * t + c))) k).2.1 = (bg_st (I 171) x3 (0, x2, fun c => if c < 40 then I 171 (867 + (40 * t + c)) else nI 0) k).2.1 := by
        intro k
        induction k with
        | zero => intro _; exact ⟨(if_pos hc).symm, rfl⟩
        | succ k ih =>
          intro hk
          obtain ⟨i1, i2⟩ := ih (by omega)
          by_cases h : I 171 (827 + k) = nI 0
          · rw [bg_st_T h, bg_st_T h]
            simp only
            rw [i2]
            refine ⟨?_, rfl⟩
            by_cases ec : c = k
            · subst ec; rw [br_v_s, br_v_s]
            · rw [br_v_j ec, br_v_j ec, i1]
          · rw [bg_st_F h, bg_st_F h]
            simp only
            refine ⟨?_, i2⟩
            by_cases ec : c = k
            · subst ec; rw [br_v_s, br_v_s]
            · rw [br_v_j ec, br_v_j ec, i1]
      have hq := bg_st_v (g := I 171) (kn := x3) (q := (0, x2, fun c => if c < 40 then I 171 (867 + (40 * t + c)) else nI 0)) (fun c => by
        show -1 ≤ ((if c < 40 then I 171 (867 + (40 * t + c)) else nI 0) : Int32).toInt ∧ ((if c < 40 then I 171 (867 + (40 * t + c)) else nI 0) : Int32).toInt ≤ 200
        by_cases h : c < 40
        · rw [if_pos h]; exact br_ptb hI.1 ht h
        · rw [if_neg h]; exact by decide +kernel) c N
      rw [← hw, (e N hN).1]
      refine ⟨fun z => (hq.1 z).trans (if_pos hc), hq.2⟩
    have rdM : ∀ p j, ¬ (p = 169 ∧ (j = 0 ∨ j = 18)) → ¬ (p = 18 + t ∧ j < 40) → ¬ (p = 24 ∧ j = t) → ¬ (p = 171 ∧ (867 + 40 * t ≤ j ∧ j < 867 + 40 * t + 40 ∨ j = 1107 + t)) → br_u M 171 (1107 + t) (M 171 1113) p j = I p j := fun p j q1 q2 q3 q4 => by
      rw [br_u_n (by omega), hM.1 p j (by omega) (by omega)]; exact rd0 p j q1 q2 q3
    have yr : M 171 1113 = I 171 1113 := by rw [hM.1 171 1113 (by omega) (by omega), g171]
    have c1 := br_cel_x hI.1.1 (9 + t, 0, 40, 867 + 40 * t, -1, 200) (br_pt_in ht) (f' := fun p j => if p = 24 ∧ j = t then I 24 t else br_u M 171 (1107 + t) (M 171 1113) p j) (g' := br_v (br_u M 171 (1107 + t) (M 171 1113) 171) (1107 + t) (I 171 (1107 + t))) (fun p j q1 q2 q3 q4 q5 => ?_) (fun k q1 q2 q3 => ?_) (fun j hj => ?_)
    · have c2 := br_cel_p c1 (15, 0, 6, 1107, 0, 6) (by decide +kernel) t ht (x := I 171 1113) (p := 24) (j := t) (k := 1107 + t) (by have := bb_years hI.1.1; rw [Nat.zero_add] at this; exact this.1) (by have := bb_years hI.1.1; rw [Nat.zero_add] at this; exact this.2) rfl (Nat.zero_add _).symm (Nat.zero_add _).symm
      refine br_Inv_w hI ⟨br_cel_c c2 (fun p j q1 q2 q3 q4 => ?_) (fun k q1 q2 => ?_), ⟨N, R, hN, hR, ?_, ?_, fun c hc => ?_, fun c h6 h7 => ?_, fun i hi => ?_⟩, ?_⟩ (fun p j hp => ?_)
      · by_cases e : p = 24 ∧ j = t
        · obtain ⟨rfl, rfl⟩ := e
          rw [br_u_s, br_u_n (by omega), hM.1 24 j (by omega) (by omega), ← hK, br_u_n (by omega), br_u_n (by omega), br_u_s, hA.1 9 9 (by omega) (by omega)]
          exact bi_years hI.1.1
        · rw [br_u_n e, if_neg e]
      · by_cases e : k = 1107 + t
        · subst e; rw [Nat.zero_add, br_v_s, br_u_s, yr]
        · rw [Nat.zero_add, br_v_j e, br_v_j e]
      · rw [Nat.zero_add, rdM _ _ (by omega) (by omega) (by omega) (by omega)]; exact eN
      · rw [Nat.zero_add, rdM _ _ (by omega) (by omega) (by omega) (by omega)]; exact eR
      · obtain ⟨r, hr, e⟩ := a3 c hc
        rw [Nat.zero_add] at e
        exact ⟨r, hr, by rw [Nat.zero_add, rdM _ _ (by omega) (by omega) (by omega) (by omega)]; exact e⟩
      · obtain ⟨e1, e2, e3⟩ := a4 c h6 h7
        rw [Nat.zero_add] at e1 e2
        refine ⟨by rw [Nat.zero_add, rdM _ _ (by omega) (by omega) (by omega) (by omega)]; exact e1, by rw [Nat.zero_add, rdM _ _ (by omega) (by omega) (by omega) (by omega)]; exact e2, fun u hu => ?_⟩
        have e3' := e3 u hu
        rw [Nat.zero_add] at e3' ⊢
        by_cases e : u = t
        · subst e
          rw [br_u_n (by omega), ← Nat.add_assoc, hM.2 c h7, (wv c h7).1 h6]; exact e3'
        · rw [rdM _ _ (by omega) (by omega) (by omega) (by omega)]; exact e3'
      · have := a5 i hi
        rw [Nat.zero_add] at this
        rw [Nat.zero_add, rdM _ _ (by omega) (by omega) (by omega) (by omega)]; exact this
      · exact br_ru_c hI.1.2.2 (rdM _ _ (by omega) (by omega) (by omega) (by omega)) (fun j => rdM _ _ (by omega) (by omega) (by omega) (by omega)) (fun k h1 h2 => rdM _ _ (by omega) (by omega) (by omega) (by omega))
      · unfold br_kO at hp
        exact rdM p j (by omega) (by omega) (by omega) (by omega)
    · simp only at q5 ⊢
      by_cases e : p = 24 ∧ j = t
      · rw [if_pos e, e.1, e.2]
      · rw [if_neg e]; exact rdM p j (by omega) (by omega) (by omega) (by omega)
    · simp only at q3
      rw [Nat.zero_add]
      by_cases e : k = 1107 + t
      · subst e; rw [br_v_s]
      · rw [br_v_j e]; exact rdM 171 k (by omega) (by omega) (by omega) (by omega)
    · simp only at hj ⊢
      have m1 : br_u M 171 (1107 + t) (M 171 1113) (18 + t) j = w j := by
        rw [br_u_n (by omega), hM.1 _ _ (by omega) (by omega), ← hK, br_u_n (by omega), br_u_n (by omega), br_u_n (by omega)]
        have := hA.2 j hj
        rw [Nat.zero_add] at this; exact this
      have m2 : br_v (br_u M 171 (1107 + t) (M 171 1113) 171) (1107 + t) (I 171 (1107 + t)) (0 + (867 + 40 * t + j)) = w j := by
        rw [br_v_j (by omega), br_u_n (by omega), Nat.zero_add]; exact hM.2 j hj
      rw [m2, Nat.zero_add, show 9 + (9 + t) = 18 + t by omega, if_neg (by omega), m1]
      exact ⟨rfl, (wv j hj).2⟩
  · refine br_pair_no hI (k := 2) (by omega) (v := -(nI 2)) (fun d Q H => ?_) (fun d Q H => ?_)
    · repeat (first
        | exact H
        | (refine br_t ?_ ?_; (focus ((first | rfl | assumption | exact fun z => z rfl | omega | (simp (disch := omega) only [not_true_eq_false, not_false_eq_true, br_u_s, br_u_n, br_u_q, nI_eq, nI_clamp, nI_add, pk_mul, br_R17, br_S17, pk_sub_toInt, br_ltT, br_leT, br_inT, br_nT, br_negT, br_b_0, br_b_1, Int32.toInt_toInt64, pk_lT, br_lnegT] <;> omega)); done)))
        | (refine br_f ?_ ?_; (focus ((first | rfl | assumption | exact fun z => z rfl | omega | (simp (disch := omega) only [not_true_eq_false, not_false_eq_true, br_u_s, br_u_n, br_u_q, nI_eq, nI_clamp, nI_add, pk_mul, br_R17, br_S17, pk_sub_toInt, br_ltT, br_leT, br_inT, br_nT, br_negT, br_b_0, br_b_1, Int32.toInt_toInt64, pk_lT, br_lnegT] <;> omega)); done)))
        | refine rb_A_give_0 ?_
        | refine rb_A_give_4 ?_
        | refine rb_A_give_12 ?_
        | refine rb_A_give_23 ?_
        | (refine rs_out_F ?_ ?_; (focus ((first | rfl | assumption | exact fun z => z rfl | omega | (simp (disch := omega) only [not_true_eq_false, not_false_eq_true, br_u_s, br_u_n, br_u_q, nI_eq, nI_clamp, nI_add, pk_mul, br_R17, br_S17, pk_sub_toInt, br_ltT, br_leT, br_inT, br_nT, br_negT, br_b_0, br_b_1, Int32.toInt_toInt64, pk_lT, br_lnegT] <;> omega)); done)))
        | (refine rs_out_T ?_ ?_; (focus ((first | rfl | assumption | exact fun z => z rfl | omega | (simp (disch := omega) only [not_true_eq_false, not_false_eq_true, br_u_s, br_u_n, br_u_q, nI_eq, nI_clamp, nI_add, pk_mul, br_R17, br_S17, pk_sub_toInt, br_ltT, br_leT, br_inT, br_nT, br_negT, br_b_0, br_b_1, Int32.toInt_toInt64, pk_lT, br_lnegT] <;> omega)); done)))
        | (refine rs_noChild_F (N := N) ?_ ?_ ?_ ?_; (focus ((first | rfl | assumption | exact fun z => z rfl | omega | (simp (disch := omega) only [not_true_eq_false, not_false_eq_true, br_u_s, br_u_n, br_u_q, nI_eq, nI_clamp, nI_add, pk_mul, br_R17, br_S17, pk_sub_toInt, br_ltT, br_leT, br_inT, br_nT, br_negT, br_b_0, br_b_1, Int32.toInt_toInt64, pk_lT, br_lnegT] <;> omega)); done)); (focus ((first | rfl | assumption | exact fun z => z rfl | omega | (simp (disch := omega) only [not_true_eq_false, not_false_eq_true, br_u_s, br_u_n, br_u_q, nI_eq, nI_clamp, nI_add, pk_mul, br_R17, br_S17, pk_sub_toInt, br_ltT, br_leT, br_inT, br_nT, br_negT, br_b_0, br_b_1, Int32.toInt_toInt64, pk_lT, br_lnegT] <;> omega)); done)); (focus ((first | rfl | assumption | exact fun z => z rfl | omega | (simp (disch := omega) only [not_true_eq_false, not_false_eq_true, br_u_s, br_u_n, br_u_q, nI_eq, nI_clamp, nI_add, pk_mul, br_R17, br_S17, pk_sub_toInt, br_ltT, br_leT, br_inT, br_nT, br_negT, br_b_0, br_b_1, Int32.toInt_toInt64, pk_lT, br_lnegT] <;> omega)); done)))
        | (refine rs_noChild_T (N := N) ?_ ?_ ?_ ?_; (focus ((first | rfl | assumption | exact fun z => z rfl | omega | (simp (disch := omega) only [not_true_eq_false, not_false_eq_true, br_u_s, br_u_n, br_u_q, nI_eq, nI_clamp, nI_add, pk_mul, br_R17, br_S17, pk_sub_toInt, br_ltT, br_leT, br_inT, br_nT, br_negT, br_b_0, br_b_1, Int32.toInt_toInt64, pk_lT, br_lnegT] <;> omega)); done)); (focus ((first | rfl | assumption | exact fun z => z rfl | omega | (simp (disch := omega) only [not_true_eq_false, not_false_eq_true, br_u_s, br_u_n, br_u_q, nI_eq, nI_clamp, nI_add, pk_mul, br_R17, br_S17, pk_sub_toInt, br_ltT, br_leT, br_inT, br_nT, br_negT, br_b_0, br_b_1, Int32.toInt_toInt64, pk_lT, br_lnegT] <;> omega)); done)); (focus ((first | rfl | assumption | exact fun z => z rfl | omega | (simp (disch := omega) only [not_true_eq_false, not_false_eq_true, br_u_s, br_u_n, br_u_q, nI_eq, nI_clamp, nI_add, pk_mul, br_R17, br_S17, pk_sub_toInt, br_ltT, br_leT, br_inT, br_nT, br_negT, br_b_0, br_b_1, Int32.toInt_toInt64, pk_lT, br_lnegT] <;> omega)); done)))
        | (refine rs_noTest_F ?_ ?_; (focus ((first | rfl | assumption | exact fun z => z rfl | omega | (simp (disch := omega) only [not_true_eq_false, not_false_eq_true, br_u_s, br_u_n, br_u_q, nI_eq, nI_clamp, nI_add, pk_mul, br_R17, br_S17, pk_sub_toInt, br_ltT, br_leT, br_inT, br_nT, br_negT, br_b_0, br_b_1, Int32.toInt_toInt64, pk_lT, br_lnegT] <;> omega)); done)))
        | (refine rs_noTest_T ?_ ?_; (focus ((first | rfl | assumption | exact fun z => z rfl | omega | (simp (disch := omega) only [not_true_eq_false, not_false_eq_true, br_u_s, br_u_n, br_u_q, nI_eq, nI_clamp, nI_add, pk_mul, br_R17, br_S17, pk_sub_toInt, br_ltT, br_leT, br_inT, br_nT, br_negT, br_b_0, br_b_1, Int32.toInt_toInt64, pk_lT, br_lnegT] <;> omega)); done)))
        | (refine rs_refuse ?_ ?_; (focus ((first | rfl | assumption | exact fun z => z rfl | omega | (simp (disch := omega) only [not_true_eq_false, not_false_eq_true, br_u_s, br_u_n, br_u_q, nI_eq, nI_clamp, nI_add, pk_mul, br_R17, br_S17, pk_sub_toInt, br_ltT, br_leT, br_inT, br_nT, br_negT, br_b_0, br_b_1, Int32.toInt_toInt64, pk_lT, br_lnegT] <;> omega)); done)))
        | (refine And.intro ?_ ?_; (focus ((first | rfl | assumption | exact fun z => z rfl | omega | (simp (disch := omega) only [not_true_eq_false, not_false_eq_true, br_u_s, br_u_n, br_u_q, nI_eq, nI_clamp, nI_add, pk_mul, br_R17, br_S17, pk_sub_toInt, br_ltT, br_leT, br_inT, br_nT, br_negT, br_b_0, br_b_1, Int32.toInt_toInt64, pk_lT, br_lnegT] <;> omega)); done))))
    · repeat (first
        | exact H
        | (refine br_t ?_ ?_; (focus ((first | rfl | assumption | exact fun z => z rfl | omega | (simp (disch := omega) only [not_true_eq_false, not_false_eq_true, br_u_s, br_u_n, br_u_q, nI_eq, nI_clamp, nI_add, pk_mul, br_R17, br_S17, pk_sub_toInt, br_ltT, br_leT, br_inT, br_nT, br_negT, br_b_0, br_b_1, Int32.toInt_toInt64, pk_lT, br_lnegT] <;> omega)); done)))
        | (refine br_f ?_ ?_; (focus ((first | rfl | assumption | exact fun z => z rfl | omega | (simp (disch := omega) only [not_true_eq_false, not_false_eq_true, br_u_s, br_u_n, br_u_q, nI_eq, nI_clamp, nI_add, pk_mul, br_R17, br_S17, pk_sub_toInt, br_ltT, br_leT, br_inT, br_nT, br_negT, br_b_0, br_b_1, Int32.toInt_toInt64, pk_lT, br_lnegT] <;> omega)); done)))
        | refine rb_M_give_0 ?_
        | refine rb_M_give_9 ?_
        | refine rb_M_give_18 ?_
        | (refine rs_wi_T ?_ ?_; (focus ((first | rfl | assumption | exact fun z => z rfl | omega | (simp (disch := omega) only [not_true_eq_false, not_false_eq_true, br_u_s, br_u_n, br_u_q, nI_eq, nI_clamp, nI_add, pk_mul, br_R17, br_S17, pk_sub_toInt, br_ltT, br_leT, br_inT, br_nT, br_negT, br_b_0, br_b_1, Int32.toInt_toInt64, pk_lT, br_lnegT] <;> omega)); done)))
        | (refine rs_wi_F ?_ ?_; (focus ((first | rfl | assumption | exact fun z => z rfl | omega | (simp (disch := omega) only [not_true_eq_false, not_false_eq_true, br_u_s, br_u_n, br_u_q, nI_eq, nI_clamp, nI_add, pk_mul, br_R17, br_S17, pk_sub_toInt, br_ltT, br_leT, br_inT, br_nT, br_negT, br_b_0, br_b_1, Int32.toInt_toInt64, pk_lT, br_lnegT] <;> omega)); done)))
        | (refine rs_isChild_T (N := N) ?_ ?_ ?_ ?_; (focus ((first | rfl | assumption | exact fun z => z rfl | omega | (simp (disch := omega) only [not_true_eq_false, not_false_eq_true, br_u_s, br_u_n, br_u_q, nI_eq, nI_clamp, nI_add, pk_mul, br_R17, br_S17, pk_sub_toInt, br_ltT, br_leT, br_inT, br_nT, br_negT, br_b_0, br_b_1, Int32.toInt_toInt64, pk_lT, br_lnegT] <;> omega)); done)); (focus ((first | rfl | assumption | exact fun z => z rfl | omega | (simp (disch := omega) only [not_true_eq_false, not_false_eq_true, br_u_s, br_u_n, br_u_q, nI_eq, nI_clamp, nI_add, pk_mul, br_R17, br_S17, pk_sub_toInt, br_ltT, br_leT, br_inT, br_nT, br_negT, br_b_0, br_b_1, Int32.toInt_toInt64, pk_lT, br_lnegT] <;> omega)); done)); (focus ((first | rfl | assumption | exact fun z => z rfl | omega | (simp (disch := omega) only [not_true_eq_false, not_false_eq_true, br_u_s, br_u_n, br_u_q, nI_eq, nI_clamp, nI_add, pk_mul, br_R17, br_S17, pk_sub_toInt, br_ltT, br_leT, br_inT, br_nT, br_negT, br_b_0, br_b_1, Int32.toInt_toInt64, pk_lT, br_lnegT] <;> omega)); done)))
        | (refine rs_isChild_F (N := N) ?_ ?_ ?_ ?_; (focus ((first | rfl | assumption | exact fun z => z rfl | omega | (simp (disch := omega) only [not_true_eq_false, not_false_eq_true, br_u_s, br_u_n, br_u_q, nI_eq, nI_clamp, nI_add, pk_mul, br_R17, br_S17, pk_sub_toInt, br_ltT, br_leT, br_inT, br_nT, br_negT, br_b_0, br_b_1, Int32.toInt_toInt64, pk_lT, br_lnegT] <;> omega)); done)); (focus ((first | rfl | assumption | exact fun z => z rfl | omega | (simp (disch := omega) only [not_true_eq_false, not_false_eq_true, br_u_s, br_u_n, br_u_q, nI_eq, nI_clamp, nI_add, pk_mul, br_R17, br_S17, pk_sub_toInt, br_ltT, br_leT, br_inT, br_nT, br_negT, br_b_0, br_b_1, Int32.toInt_toInt64, pk_lT, br_lnegT] <;> omega)); done)); (focus ((first | rfl | assumption | exact fun z => z rfl | omega | (simp (disch := omega) only [not_true_eq_false, not_false_eq_true, br_u_s, br_u_n, br_u_q, nI_eq, nI_clamp, nI_add, pk_mul, br_R17, br_S17, pk_sub_toInt, br_ltT, br_leT, br_inT, br_nT, br_negT, br_b_0, br_b_1, Int32.toInt_toInt64, pk_lT, br_lnegT] <;> omega)); done)))
        | (refine rs_isTest_T ?_ ?_; (focus ((first | rfl | assumption | exact fun z => z rfl | omega | (simp (disch := omega) only [not_true_eq_false, not_false_eq_true, br_u_s, br_u_n, br_u_q, nI_eq, nI_clamp, nI_add, pk_mul, br_R17, br_S17, pk_sub_toInt, br_ltT, br_leT, br_inT, br_nT, br_negT, br_b_0, br_b_1, Int32.toInt_toInt64, pk_lT, br_lnegT] <;> omega)); done)))
        | (refine rs_isTest_F ?_ ?_; (focus ((first | rfl | assumption | exact fun z => z rfl | omega | (simp (disch := omega) only [not_true_eq_false, not_false_eq_true, br_u_s, br_u_n, br_u_q, nI_eq, nI_clamp, nI_add, pk_mul, br_R17, br_S17, pk_sub_toInt, br_ltT, br_leT, br_inT, br_nT, br_negT, br_b_0, br_b_1, Int32.toInt_toInt64, pk_lT, br_lnegT] <;> omega)); done)))
        | (refine rs_no ?_ ?_; (focus ((first | rfl | assumption | exact fun z => z rfl | omega | (simp (disch := omega) only [not_true_eq_false, not_false_eq_true, br_u_s, br_u_n, br_u_q, nI_eq, nI_clamp, nI_add, pk_mul, br_R17, br_S17, pk_sub_toInt, br_ltT, br_leT, br_inT, br_nT, br_negT, br_b_0, br_b_1, Int32.toInt_toInt64, pk_lT, br_lnegT] <;> omega)); done)))
        | (refine rs_pointOf ?_ ?_ ?_; (focus ((first | rfl | assumption | exact fun z => z rfl | omega | (simp (disch := omega) only [not_true_eq_false, not_false_eq_true, br_u_s, br_u_n, br_u_q, nI_eq, nI_clamp, nI_add, pk_mul, br_R17, br_S17, pk_sub_toInt, br_ltT, br_leT, br_inT, br_nT, br_negT, br_b_0, br_b_1, Int32.toInt_toInt64, pk_lT, br_lnegT] <;> omega)); done)); (focus ((first | rfl | assumption | exact fun z => z rfl | omega | (simp (disch := omega) only [not_true_eq_false, not_false_eq_true, br_u_s, br_u_n, br_u_q, nI_eq, nI_clamp, nI_add, pk_mul, br_R17, br_S17, pk_sub_toInt, br_ltT, br_leT, br_inT, br_nT, br_negT, br_b_0, br_b_1, Int32.toInt_toInt64, pk_lT, br_lnegT] <;> omega)); done)))
        | (refine And.intro ?_ ?_; (focus ((first | rfl | assumption | exact fun z => z rfl | omega | (simp (disch := omega) only [not_true_eq_false, not_false_eq_true, br_u_s, br_u_n, br_u_q, nI_eq, nI_clamp, nI_add, pk_mul, br_R17, br_S17, pk_sub_toInt, br_ltT, br_leT, br_inT, br_nT, br_negT, br_b_0, br_b_1, Int32.toInt_toInt64, pk_lT, br_lnegT] <;> omega)); done))))
end
