set_option maxRecDepth 100000
set_option maxHeartbeats 4000000
abbrev bs_E : Type := Nat × Int32 × Bool
def bs_e (g : Nat → Int32) (a b c : Nat) : bs_E := ((g (667 + c)).toNatClampNeg, g (867 + (40 * b + c)) - g (867 + (40 * a + c)), decide (g (787 + c) = nI 1))
def bs_l (P : Nat → Bool) (E : Nat → bs_E) : Nat → List bs_E
  | 0 => []
  | c + 1 => if P c = true then bs_l P E c ++ [E c] else bs_l P E c
theorem bs_l_T {P : Nat → Bool} {E : Nat → bs_E} {c : Nat} (h : P c = true) : bs_l P E (c + 1) = bs_l P E c ++ [E c] := if_pos h
theorem bs_l_F {P : Nat → Bool} {E : Nat → bs_E} {c : Nat} (h : P c = false) : bs_l P E (c + 1) = bs_l P E c := if_neg (by rw [h]; exact Bool.false_ne_true)
theorem bs_l_len {P : Nat → Bool} {E : Nat → bs_E} : ∀ c, (bs_l P E c).length ≤ c
  | 0 => Nat.le_refl 0
  | c + 1 => by
    have h := bs_l_len (P := P) (E := E) c
    cases hp : P c with
    | true => rw [bs_l_T hp, List.length_append]; simp only [List.length_cons, List.length_nil]; omega
    | false => rw [bs_l_F hp]; omega
/-- the sample holds a list -/
def br_sam (l : List bs_E) (J : Nat → Nat → Int32) : Prop := l.length ≤ 40 ∧ J 64 3 = nI l.length ∧ ∀ i e, l[i]? = some e → J 65 i = nI e.1 ∧ J 66 i = e.2.1 ∧ J 67 i = nI e.2.2.toNat
section
variable {d n : Nat} {Q : br_Q} {I : Nat → Nat → Int32} {L : Nat → Nat → Int64}
theorem rs_S_add {l : List bs_E} {e : bs_E} (h : br_sam l I) (hl : l.length < 40) (H : ∀ J : Nat → Nat → Int32, (∀ p, ¬ (64 ≤ p ∧ p ≤ 67) → J p = I p) → br_sam (l ++ [e]) J → Q none (br_hp n J L)) :
    br_r d 102 0 [some (.ref 64), some (.int (nI e.1)), some (.int e.2.1), some (.int (nI e.2.2.toNat))] [] (br_hp n I L) Q := by
  obtain ⟨h1, h2, h3⟩ := h
  refine rb_Sample_add_0 ?_
  simp (disch := omega) only [br_u_n, h2, nI_clamp, br_01 (bu_nI _), nI_add]
  refine br_f (nI_ge hl (by omega)) ⟨vp_in_nI hl (by omega), vp_in_nI hl (by omega), vp_in_nI hl (by omega), H _ (fun p hp => ?_) ⟨?_, ?_, fun i e' he => ?_⟩⟩
  · rw [br_u_q (by omega), br_u_q (by omega), br_u_q (by omega), br_u_q (by omega)]
  · rw [List.length_append]; simp only [List.length_cons, List.length_nil]; omega
  · rw [br_u_s, List.length_append]; simp only [List.length_cons, List.length_nil]
  · by_cases hi : i < l.length
    · rw [List.getElem?_append_left hi] at he
      obtain ⟨q1, q2, q3⟩ := h3 i e' he
      refine ⟨?_, ?_, ?_⟩
      · rw [br_u_n (by omega), br_u_n (by omega), br_u_n (by omega), br_u_n (by omega)]; exact q1
      · rw [br_u_n (by omega), br_u_n (by omega), br_u_n (by omega), br_u_n (by omega)]; exact q2
      · rw [br_u_n (by omega), br_u_n (by omega), br_u_n (by omega), br_u_n (by omega)]; exact q3
    · have hi2 : i < (l ++ [e]).length := (List.getElem?_eq_some_iff.mp he).1
      rw [List.length_append] at hi2
      simp only [List.length_cons, List.length_nil] at hi2
      have hi3 : i = l.length := by omega
      subst hi3
      rw [List.getElem?_append_right (Nat.le_refl _), Nat.sub_self] at he
      have he2 : e = e' := Option.some.inj he
      subst he2
      refine ⟨?_, ?_, ?_⟩
      · rw [br_u_n (by omega), br_u_n (by omega), br_u_n (by omega), br_u_s]
      · rw [br_u_n (by omega), br_u_n (by omega), br_u_s]
      · rw [br_u_n (by omega), br_u_s]
theorem rs_S_clear (H : ∀ J : Nat → Nat → Int32, (∀ p, ¬ (64 ≤ p ∧ p ≤ 67) → J p = I p) → br_sam [] J → Q none (br_hp n J L)) : br_r d 97 0 [some (.ref 64)] [] (br_hp n I L) Q := by
  refine rb_Sample_clear_0 (H _ (fun p hp => br_u_q (by omega)) ⟨by simp, br_u_s, fun i e he => ?_⟩)
  simp at he
theorem rs_W_isRead {a b c N : Nat} {z4 : Option Value} (hW : br_W 9 0 I) (hN : N ≤ 40) (eN : I 171 666 = nI N) (hc : c < N) (ha : a < 6) (hb : b < 6) (H : Q (some (.int (nI (bm_rd0 (I 171) a b c).toNat))) (br_hp n I L)) :
    br_r (d + 2) 99 0 [some (.ref 9), some (.int (nI c)), some (.int (nI a)), some (.int (nI b)), z4] [] (br_hp n I L) Q := by
  have hc4 : c < 40 := by omega
  obtain ⟨r, w, hr, hw, er, ew, kid⟩ := br_kidW hW hN eN hc
  have pa := br_ptW hW ha hc4
  have pb := br_ptW hW hb hc4
  have bnd : ∀ t, t < 6 → (I 171 (867 + (40 * t + c)) = -(nI 1) ↔ I 171 (867 + (40 * t + c)) < nI 0) := by
    intro t ht
    have bb : -1 ≤ (I 171 (867 + (40 * t + c))).toInt := by
      rcases (by omega : t = 0 ∨ t = 1 ∨ t = 2 ∨ t = 3 ∨ t = 4 ∨ t = 5) with rfl | rfl | rfl | rfl | rfl | rfl
      · have := (bb_pt0 hW.1 hc4).1; rw [Nat.zero_add] at this; rw [show 867 + (40 * 0 + c) = 867 + c by omega]; exact this
      · have := (bb_pt1 hW.1 hc4).1; rw [Nat.zero_add] at this; rw [show 867 + (40 * 1 + c) = 907 + c by omega]; exact this
      · have := (bb_pt2 hW.1 hc4).1; rw [Nat.zero_add] at this; rw [show 867 + (40 * 2 + c) = 947 + c by omega]; exact this
      · have := (bb_pt3 hW.1 hc4).1; rw [Nat.zero_add] at this; rw [show 867 + (40 * 3 + c) = 987 + c by omega]; exact this
      · have := (bb_pt4 hW.1 hc4).1; rw [Nat.zero_add] at this; rw [show 867 + (40 * 4 + c) = 1027 + c by omega]; exact this
      · have := (bb_pt5 hW.1 hc4).1; rw [Nat.zero_add] at this; rw [show 867 + (40 * 5 + c) = 1067 + c by omega]; exact this
    rw [br_eqT, br_ltT, br_negT (by omega), nI_toInt (by omega)]
    omega
  have m3 := bi_word hW.1 hc4
  have m0 := bi_room hW.1 hc4
  have m1 := bi_grade hW.1 hc4
  refine rb_World_isRead_0 ?_
  simp (disch := omega) only [nI_clamp, br_R17, br_S17, pa, pb, m3, m0, m1]
  unfold bm_rd0 at H
  refine ⟨vp_in_nI ha (by omega), trivial, vp_in_nI hc4 (by omega), fun h => ?_, fun h => ⟨vp_in_nI hb (by omega), trivial, vp_in_nI hc4 (by omega), fun h2 => ⟨vp_in_nI hc4 (by omega), ?_⟩, fun h2 => ?_⟩⟩
  · rw [decide_eq_true ((bnd a ha).mpr h)] at H
    exact H
  · have n1 : ¬ I 171 (867 + (40 * a + c)) = -(nI 1) := fun z => h ((bnd a ha).mp z)
    have n2 : ¬ I 171 (867 + (40 * b + c)) = -(nI 1) := fun z => by
      have := (bnd b hb).mp z
      rw [br_ltT] at this; rw [br_leT] at h2; omega
    rw [decide_eq_false n1, decide_eq_false n2] at H
    have eF : bm_F (I 171) c a = bu_F (I 171 (787 + c)) (I 171 (667 + c)) (I 171 (707 + c)) (I 171 (630 + r)) (I 171 (867 + (40 * a + c))) := by
      unfold bm_F; rw [er, nI_clamp (by omega)]
    rw [eF] at H
    have tl : ∀ x : Int32, x = nI (decide (nI 1 < I 171 (787 + c))).toNat → br_r (d + 1) 27 0 [some (.ref 9), some (.int (nI c))] [] (br_hp n I L) (fun v h => br_r (d + 2) 99 64 [some (.ref 9), some (.int (nI c)), some (.int (nI a)), some (.int (nI b)), some (.int (I 171 (867 + (40 * a + c))))] (v.toList ++ [(.int (I 171 (707 + c))), (.int (I 171 (667 + c))), (.int x), (.ref 29)]) (br_bk h) Q) := by
      intro x hx
      subst hx
      refine rs_W_weeksOf kid (rb_World_isRead_64 (rs_anyTrue hW.2.2 (rb_World_isRead_69 ?_)))
      rw [bu_nI0]
      refine ⟨fun h5 => ?_, fun h5 => ?_⟩
      · rw [Bool.not_eq_false] at h5
        rw [h5] at H; exact H
      · have h5' := Classical.not_not.mp h5
        rw [h5'] at H; exact H
    refine ⟨fun h5 => ⟨vp_in_nI hc4 (by omega), vp_in_nI hc4 (by omega), tl _ ?_⟩, fun h5 => ⟨vp_in_nI hc4 (by omega), vp_in_nI hc4 (by omega), tl _ ?_⟩⟩
    · exact (bu_dF (by rw [br_ltT]; rw [br_leT] at h5; omega)).symm
    · exact (bu_dT (by rw [br_ltT]; rw [br_leT] at h5; omega)).symm
  · have n2 : I 171 (867 + (40 * b + c)) = -(nI 1) := (bnd b hb).mpr (by rw [br_ltT]; rw [br_leT] at h2; omega)
    rw [decide_eq_true n2, Bool.not_true, Bool.and_false, Bool.false_and] at H
    exact H
theorem rs_isEnd {x : Int32} (hW : br_W 9 0 I) (H : Q (some (.int (nI (decide (x = I 171 17) || decide (x = I 171 18)).toNat))) (br_hp n I L)) : br_r d 98 0 [some (.ref 25), some (.int x)] [] (br_hp n I L) Q := by
  have e16 := bi_lawfr hW.1 (j := 0) (by omega)
  have e17 := bi_lawfr hW.1 (j := 1) (by omega)
  have e3 : br_R0 25 0 = 26 := rfl
  refine rb_Law_isEnd_0 ⟨rfl, rfl, vp_in_nI (n := 16) (N := 18) (by decide) (by decide), ?_⟩
  rw [e3]
  have q1 : I 26 16 = I 171 17 := e16
  have q2 : I 26 17 = I 171 18 := e17
  rw [q1, q2]
  refine ⟨fun h => ?_, fun h => ⟨rfl, rfl, vp_in_nI (n := 17) (N := 18) (by decide) (by decide), fun h2 => ?_, fun h2 => ?_⟩⟩
  · rw [decide_eq_true h] at H; exact H
  · rw [decide_eq_false h, decide_eq_false h2] at H; exact H
  · rw [decide_eq_false h, decide_eq_true (Classical.not_not.mp h2)] at H; exact H
theorem rs_W_gather {a b N : Nat} {clean : Bool} {z5 z6 : Option Value} (hW : br_W 9 0 I) (hN : N ≤ 40) (eN : I 171 666 = nI N) (ha : a < 6) (hb : b < 6)
    (H : ∀ J : Nat → Nat → Int32, (∀ p, ¬ (64 ≤ p ∧ p ≤ 67) → J p = I p) → br_sam (bs_l (bm_rd (I 171) a b clean) (bs_e (I 171) a b) N) J → Q none (br_hp n J L)) :
    br_r (d + 3) 96 0 [some (.ref 9), some (.ref 64), some (.int (nI a)), some (.int (nI b)), some (.int (nI clean.toNat)), z5, z6] [] (br_hp n I L) Q := by
  have cN : I 9 8 = nI N := (bi_children hW.1).trans eN
  have loop : ∀ k c (J : Nat → Nat → Int32) (z6 : Option Value), c + k = N → (∀ p, ¬ (64 ≤ p ∧ p ≤ 67) → J p = I p) → br_sam (bs_l (bm_rd (I 171) a b clean) (bs_e (I 171) a b) c) J →
      br_r (d + 3) 96 7 [some (.ref 9), some (.ref 64), some (.int (nI a)), some (.int (nI b)), some (.int (nI clean.toNat)), some (.int (nI c)), z6] [] (br_hp n J L) Q := by
    intro k
    induction k with
    | zero =>
      intro c J z6 hc hJ hs
      have : c = N := by omega
      subst this
      exact rb_World_gather_7 (br_t (by rw [hJ 9 (by omega), cN]; exact nI_le (Nat.le_refl _) (by omega)) (H J hJ hs))
    | succ k ih =>
      intro c J z6 hc hJ hs
      have hc4 : c < 40 := by omega
      have hWJ : br_W 9 0 J := br_W_c hW (fun p j h1 h2 => by rw [hJ p (by omega)]) (fun k _ => by rw [hJ 171 (by omega)])
      have j171 : J 171 = I 171 := hJ 171 (by omega)
      have pa : J (18 + a) c = I 171 (867 + (40 * a + c)) := by rw [hJ _ (by omega)]; exact br_ptW hW ha hc4
      have pb : J (18 + b) c = I 171 (867 + (40 * b + c)) := by rw [hJ _ (by omega)]; exact br_ptW hW hb hc4
      have m3 : J 15 c = I 171 (787 + c) := by rw [hJ _ (by omega)]; exact bi_word hW.1 hc4
      have m0 : J 12 c = I 171 (667 + c) := by rw [hJ _ (by omega)]; exact bi_room hW.1 hc4
      obtain ⟨r, w, hr, hw, er, ew, kid⟩ := br_kidW hW hN eN (c := c) (by omega)
      have hll := bs_l_len (P := bm_rd (I 171) a b clean) (E := bs_e (I 171) a b) c
      have nx : ∀ (J' : Nat → Nat → Int32) (z : Option Value), (∀ p, ¬ (64 ≤ p ∧ p ≤ 67) → J' p = I p) → br_sam (bs_l (bm_rd (I 171) a b clean) (bs_e (I 171) a b) (c + 1)) J' →
          br_r (d + 3) 96 128 [some (.ref 9), some (.ref 64), some (.int (nI a)), some (.int (nI b)), some (.int (nI clean.toNat)), some (.int (nI c)), z] [] (br_hp n J' L) Q := by
        intro J' z h1 h2
        refine rb_World_gather_128 ?_
        rw [nI_add]
        exact ih (c + 1) J' z (by omega) h1 h2
      have put : ∀ z : Option Value, bm_rd (I 171) a b clean c = true → br_r (d + 3) 96 82 [some (.ref 9), some (.ref 64), some (.int (nI a)), some (.int (nI b)), some (.int (nI clean.toNat)), some (.int (nI c)), z] [] (br_hp n J L) Q := by
        intro z hrd
        refine rb_World_gather_82 ?_
        simp (disch := omega) only [nI_clamp, br_R17, br_S17, pa, pb, m3, m0, er]
        have ee : bs_e (I 171) a b c = (r, I 171 (867 + (40 * b + c)) - I 171 (867 + (40 * a + c)), decide (I 171 (787 + c) = nI 1)) := by unfold bs_e; rw [er, nI_clamp (by omega)]
        have go : ∀ x : Int32, x = nI (decide (I 171 (787 + c) = nI 1)).toNat → br_r (d + 2) 102 0 [some (.ref 64), some (.int (nI r)), some (.int (I 171 (867 + (40 * b + c)) - I 171 (867 + (40 * a + c)))), some (.int x)] [] (br_hp n J L) (fun v h => br_r (d + 3) 96 128 [some (.ref 9), some (.ref 64), some (.int (nI a)), some (.int (nI b)), some (.int (nI clean.toNat)), some (.int (nI c)), z] (v.toList ++ []) (br_bk h) Q) := by
          intro x hx
          subst hx
          refine rs_S_add (e := (r, I 171 (867 + (40 * b + c)) - I 171 (867 + (40 * a + c)), decide (I 171 (787 + c) = nI 1))) hs (by omega) (fun J' h1 h2 => nx J' z (fun p hp => by rw [h1 p hp, hJ p hp]) ?_)
          rw [bs_l_T hrd, ee]
          exact h2
        refine ⟨vp_in_nI hc4 (by omega), vp_in_nI hb (by omega), trivial, vp_in_nI hc4 (by omega), vp_in_nI ha (by omega), trivial, vp_in_nI hc4 (by omega), vp_in_nI hc4 (by omega), fun h => go _ (bu_dF h).symm, fun h => go _ (bu_dT (Classical.not_not.mp h)).symm⟩
      have rd : ∀ w : Bool, w = (bm_end (I 171) c a || bm_end (I 171) c b) → br_r (d + 2) 99 0 [some (.ref 9), some (.int (nI c)), some (.int (nI a)), some (.int (nI b)), none] [] (br_hp n J L) (fun v h => br_r (d + 3) 96 69 [some (.ref 9), some (.ref 64), some (.int (nI a)), some (.int (nI b)), some (.int (nI clean.toNat)), some (.int (nI c)), some (.int (nI w.toNat))] (v.toList ++ []) (br_bk h) Q) := by
        intro w hw
        refine rs_W_isRead hWJ hN (by rw [j171]; exact eN) (by omega) ha hb (rb_World_gather_69 ?_)
        rw [j171, bu_nI0, bu_nI0, bu_nI0]
        have er2 : bm_rd (I 171) a b clean c = (bm_rd0 (I 171) a b c && !(clean && w)) := by rw [hw]; rfl
        refine ⟨fun h => nx J _ hJ ?_, fun h => ⟨fun h2 => put _ ?_, fun h2 => ⟨fun h3 => nx J _ hJ ?_, fun h3 => put _ ?_⟩⟩⟩
        · rw [bs_l_F (by rw [er2, h]; rfl)]; exact hs
        · rw [Bool.not_eq_false] at h
          rw [er2, h, h2]; rfl
        · rw [Bool.not_eq_false] at h h2 h3
          rw [bs_l_F (by rw [er2, h, h2, h3]; rfl)]; exact hs
        · have h3' := Classical.not_not.mp h3
          rw [Bool.not_eq_false] at h h2
          rw [er2, h, h2, h3']; rfl
      refine rb_World_gather_7 (br_f (by rw [hJ 9 (by omega), cN]; exact nI_ge (by omega) (by omega)) ?_)
      simp (disch := omega) only [nI_clamp, br_R17, br_S17, pa]
      refine ⟨vp_in_nI ha (by omega), trivial, vp_in_nI hc4 (by omega), rs_isEnd hWJ (rb_World_gather_32 ?_)⟩
      rw [j171, bu_nI0]
      have ea : (decide (I 171 (867 + (40 * a + c)) = I 171 17) || decide (I 171 (867 + (40 * a + c)) = I 171 18)) = bm_end (I 171) c a := rfl
      rw [ea]
      refine ⟨fun h => rd true ?_, fun h => ?_⟩
      · rw [Bool.not_eq_false] at h; rw [h]; rfl
      · have h' := Classical.not_not.mp h
        simp (disch := omega) only [nI_clamp, br_R17, br_S17, pb]
        refine ⟨vp_in_nI hb (by omega), trivial, vp_in_nI hc4 (by omega), rs_isEnd hWJ (rb_World_gather_51 ?_)⟩
        rw [j171, bu_nI0]
        have eb : (decide (I 171 (867 + (40 * b + c)) = I 171 17) || decide (I 171 (867 + (40 * b + c)) = I 171 18)) = bm_end (I 171) c b := rfl
        rw [eb]
        refine ⟨fun h2 => rd false ?_, fun h2 => rd true ?_⟩
        · rw [h', h2]; rfl
        · rw [Bool.not_eq_false] at h2; rw [h', h2]; rfl
  exact rb_World_gather_0 (rs_S_clear (fun J h1 h2 => rb_World_gather_4 (loop N 0 J z6 (by omega) h1 h2)))
end
