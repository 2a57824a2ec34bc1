set_option maxRecDepth 100000
set_option maxHeartbeats 4000000
/-- the latest mark of a child in a test, of the first k -/
def bm_mk (g : Nat → Int32) (c t : Nat) : Nat → Int32
  | 0 => -(nI 1)
  | k + 1 => if g (1188 + k) = nI c ∧ g (1228 + k) = nI t then g (1268 + k) else bm_mk g c t k
theorem bm_mk_T {g : Nat → Int32} {c t k : Nat} (h1 : g (1188 + k) = nI c) (h2 : g (1228 + k) = nI t) : bm_mk g c t (k + 1) = g (1268 + k) := if_pos ⟨h1, h2⟩
theorem bm_mk_F {g : Nat → Int32} {c t k : Nat} (h : ¬ (g (1188 + k) = nI c ∧ g (1228 + k) = nI t)) : bm_mk g c t (k + 1) = bm_mk g c t k := if_neg h
theorem br_dn (k : Nat) : nI k + -(nI 1) = nI k - nI 1 := (Int32.sub_eq_add_neg _ _).symm
def bm_mP (g : Nat → Int32) (t S c : Nat) : Bool := !decide (bm_mk g c t S = -(nI 1)) && !decide (g (867 + (40 * t + c)) = -(nI 1))
def bm_mE (g : Nat → Int32) (t S c : Nat) : bs_E := ((g (667 + c)).toNatClampNeg, g (867 + (40 * t + c)) - bm_mk g c t S, decide (g (787 + c) = nI 1))
theorem br_l0 (x : Int64) : x + lN 0 = x := Int64.add_zero x
section
variable {d n : Nat} {Q : br_Q} {I : Nat → Nat → Int32} {L : Nat → Nat → Int64}
theorem bm_mk_b (hW : br_W 9 0 I) {c t : Nat} : ∀ S, S ≤ 40 → bm_mk (I 171) c t S = -(nI 1) ∨ (0 ≤ (bm_mk (I 171) c t S).toInt ∧ (bm_mk (I 171) c t S).toInt ≤ 200)
  | 0, _ => Or.inl rfl
  | S + 1, h => by
    by_cases h1 : I 171 (1188 + S) = nI c ∧ I 171 (1228 + S) = nI t
    · rw [bm_mk_T h1.1 h1.2]
      have := bb_mpoints hW.1 (j := S) (by omega)
      rw [Nat.zero_add] at this
      exact Or.inr this
    · rw [bm_mk_F h1]; exact bm_mk_b hW S (by omega)
theorem rs_A_latest {c t S : Nat} {z3 : Option Value} (hW : br_W 9 0 I) (hS : I 171 1187 = nI S) (hS2 : S ≤ 40) (H : Q (some (.int (bm_mk (I 171) c t S))) (br_hp n I L)) : br_r d 160 0 [some (.ref 35), some (.int (nI c)), some (.int (nI t)), z3] [] (br_hp n I L) Q := by
  have loop : ∀ k, k ≤ S → Q (some (.int (bm_mk (I 171) c t k))) (br_hp n I L) → br_r d 160 7 [some (.ref 35), some (.int (nI c)), some (.int (nI t)), some (.int (nI k - nI 1))] [] (br_hp n I L) Q := by
    intro k
    induction k with
    | zero =>
      intro _ h
      exact rb_Marks_latestOf_7 (br_t (by decide +kernel) h)
    | succ k ih =>
      intro hk h
      have e1 := bi_mchild hW.1 (j := k) (by omega)
      have e2 := bi_mtest hW.1 (j := k) (by omega)
      have e3 := bi_mpoints hW.1 (j := k) (by omega)
      rw [pk_sub (by omega), Nat.add_sub_cancel]
      refine rb_Marks_latestOf_7 (br_f (nI_pos (by omega)) ⟨vp_in_nI (by omega) (by omega), ?_⟩)
      rw [nI_clamp (by omega), e1, e2, e3, br_dn]
      refine ⟨fun h1 => ih (by omega) ?_, fun h1 => ⟨vp_in_nI (by omega) (by omega), fun h2 => ih (by omega) ?_, fun h2 => ⟨vp_in_nI (by omega) (by omega), ?_⟩⟩⟩
      · rw [bm_mk_F (fun z => h1 z.1)] at h; exact h
      · rw [bm_mk_F (fun z => h2 z.2)] at h; exact h
      · rw [bm_mk_T (Classical.not_not.mp h1) (Classical.not_not.mp h2)] at h; exact h
  refine rb_Marks_latestOf_0 ?_
  rw [bi_nmarks hW.1, hS]
  exact loop S (Nat.le_refl _) H
theorem rs_M_markOf {g : Nat → Int32} {c t S : Nat} {z3 : Option Value} (hg : I 171 = g) (hS : g 1187 = nI S) (hS2 : S ≤ 40) (H : Q (some (.int (bm_mk g c t S))) (br_hp n I L)) : br_r d 278 0 [some (.ref 169), some (.int (nI c)), some (.int (nI t)), z3] [] (br_hp n I L) Q := by
  subst hg
  have loop : ∀ k, k ≤ S → Q (some (.int (bm_mk (I 171) c t k))) (br_hp n I L) → br_r d 278 11 [some (.ref 169), some (.int (nI c)), some (.int (nI t)), some (.int (nI k - nI 1))] [] (br_hp n I L) Q := by
    intro k
    induction k with
    | zero =>
      intro _ h
      exact rb_M_markOf_11 (br_t (by decide +kernel) h)
    | succ k ih =>
      intro hk h
      rw [pk_sub (by omega), Nat.add_sub_cancel]
      refine rb_M_markOf_11 (br_f (nI_pos (by omega)) ?_)
      simp (disch := omega) only [nI_add, nI_clamp, br_dn]
      refine ⟨vp_in_nI (by omega) (by omega), fun h1 => ih (by omega) ?_, fun h1 => ⟨vp_in_nI (by omega) (by omega), fun h2 => ih (by omega) ?_, fun h2 => ⟨vp_in_nI (by omega) (by omega), ?_⟩⟩⟩
      · rw [bm_mk_F (fun z => h1 z.1)] at h; exact h
      · rw [bm_mk_F (fun z => h2 z.2)] at h; exact h
      · rw [bm_mk_T (Classical.not_not.mp h1) (Classical.not_not.mp h2)] at h; exact h
  refine rb_M_markOf_0 ?_
  rw [hS]
  exact loop S (Nat.le_refl _) H
theorem rs_W_gatherMarked {t N S : Nat} {z3 z4 : Option Value} (hW : br_W 9 0 I) (hN : N ≤ 40) (eN : I 171 666 = nI N) (hS : I 171 1187 = nI S) (hS2 : S ≤ 40) (ht : t < 6)
    (H : ∀ J : Nat → Nat → Int32, (∀ p, ¬ (64 ≤ p ∧ p ≤ 67) → J p = I p) → br_sam (bs_l (bm_mP (I 171) t S) (bm_mE (I 171) t S) N) J → Q none (br_hp n J L)) :
    br_r (d + 1) 159 0 [some (.ref 9), some (.ref 64), some (.int (nI t)), z3, z4] [] (br_hp n I L) Q := by
  have cN : I 9 8 = nI N := (bi_children hW.1).trans eN
  have loop : ∀ k c (J : Nat → Nat → Int32) (z4 : Option Value), c + k = N → (∀ p, ¬ (64 ≤ p ∧ p ≤ 67) → J p = I p) → br_sam (bs_l (bm_mP (I 171) t S) (bm_mE (I 171) t S) c) J →
      br_r (d + 1) 159 6 [some (.ref 9), some (.ref 64), some (.int (nI t)), some (.int (nI c)), z4] [] (br_hp n J L) Q := by
    intro k
    induction k with
    | zero =>
      intro c J z4 hc hJ hs
      have : c = N := by omega
      subst this
      exact rb_World_gatherMarked_6 (br_t (by rw [hJ 9 (by omega), cN]; exact nI_le (Nat.le_refl _) (by omega)) (H J hJ hs))
    | succ k ih =>
      intro c J z4 hc hJ hs
      have hc4 : c < 40 := by omega
      have hWJ : br_W 9 0 J := br_W_c hW (fun p j h1 h2 => by rw [hJ p (by omega)]) (fun k _ => by rw [hJ 171 (by omega)])
      have j171 : J 171 = I 171 := hJ 171 (by omega)
      have pt : J (18 + t) c = I 171 (867 + (40 * t + c)) := by rw [hJ _ (by omega)]; exact br_ptW hW ht hc4
      have m3 : J 15 c = I 171 (787 + c) := by rw [hJ _ (by omega)]; exact bi_word hW.1 hc4
      have m0 : J 12 c = I 171 (667 + c) := by rw [hJ _ (by omega)]; exact bi_room hW.1 hc4
      obtain ⟨r, w, hr, hw, er, ew, kid⟩ := br_kidW hW hN eN (c := c) (by omega)
      have hll := bs_l_len (P := bm_mP (I 171) t S) (E := bm_mE (I 171) t S) c
      have nx : ∀ (J' : Nat → Nat → Int32) (z : Option Value), (∀ p, ¬ (64 ≤ p ∧ p ≤ 67) → J' p = I p) → br_sam (bs_l (bm_mP (I 171) t S) (bm_mE (I 171) t S) (c + 1)) J' →
          br_r (d + 1) 159 77 [some (.ref 9), some (.ref 64), some (.int (nI t)), some (.int (nI c)), z] [] (br_hp n J' L) Q := by
        intro J' z h1 h2
        refine rb_World_gatherMarked_77 ?_
        rw [nI_add]
        exact ih (c + 1) J' z (by omega) h1 h2
      have ee : bm_mE (I 171) t S c = (r, I 171 (867 + (40 * t + c)) - bm_mk (I 171) c t S, decide (I 171 (787 + c) = nI 1)) := by unfold bm_mE; rw [er, nI_clamp (by omega)]
      have bp := br_ptb hW ht hc4
      have bm := bm_mk_b hW (c := c) (t := t) S hS2
      have z0 : (nI 0).toInt = 0 := nI_toInt (by omega)
      have zm : (-(nI 1)).toInt = -1 := br_negT (by omega)
      refine rb_World_gatherMarked_6 (br_f (by rw [hJ 9 (by omega), cN]; exact nI_ge (by omega) (by omega)) (rs_A_latest hWJ (by rw [j171]; exact hS) hS2 (rb_World_gatherMarked_23 ?_)))
      rw [j171]
      simp (disch := omega) only [nI_clamp, br_R17, br_S17, pt, m3, m0, er]
      refine ⟨vp_in_nI ht (by omega), trivial, vp_in_nI hc4 (by omega), fun h => nx J _ hJ ?_, fun h => ⟨fun h2 => nx J _ hJ ?_, fun h2 => ?_⟩⟩
      · rw [br_ltT] at h
        have : I 171 (867 + (40 * t + c)) = -(nI 1) := Int32.toInt_inj.mp (by omega)
        rw [bs_l_F (by unfold bm_mP; rw [decide_eq_true this]; simp)]; exact hs
      · rw [br_ltT] at h2
        have : bm_mk (I 171) c t S = -(nI 1) := by
          rcases bm with h5 | h5
          · exact h5
          · omega
        rw [bs_l_F (by unfold bm_mP; rw [decide_eq_true this]; simp)]; exact hs
      · rw [br_ltT] at h h2
        have n1 : ¬ I 171 (867 + (40 * t + c)) = -(nI 1) := fun z => by rw [z] at h; omega
        have n2 : ¬ bm_mk (I 171) c t S = -(nI 1) := fun z => by rw [z] at h2; omega
        have hp : bm_mP (I 171) t S c = true := by unfold bm_mP; rw [decide_eq_false n1, decide_eq_false n2]; rfl
        have go : ∀ x : Int32, x = nI (decide (I 171 (787 + c) = nI 1)).toNat → br_r d 102 0 [some (.ref 64), some (.int (nI r)), some (.int (I 171 (867 + (40 * t + c)) - bm_mk (I 171) c t S)), some (.int x)] [] (br_hp n J L) (fun v h => br_r (d + 1) 159 77 [some (.ref 9), some (.ref 64), some (.int (nI t)), some (.int (nI c)), some (.int (bm_mk (I 171) c t S))] (v.toList ++ []) (br_bk h) Q) := by
          intro x hx
          subst hx
          refine rs_S_add (e := (r, I 171 (867 + (40 * t + c)) - bm_mk (I 171) c t S, decide (I 171 (787 + c) = nI 1))) hs (by omega) (fun J' h1 h2 => nx J' _ (fun p hp => by rw [h1 p hp, hJ p hp]) ?_)
          rw [bs_l_T hp, ee]
          exact h2
        refine ⟨vp_in_nI hc4 (by omega), vp_in_nI ht (by omega), trivial, vp_in_nI hc4 (by omega), vp_in_nI hc4 (by omega), fun h => go _ (bu_dF h).symm, fun h => go _ (bu_dT (Classical.not_not.mp h)).symm⟩
  exact rb_World_gatherMarked_0 (rs_S_clear (fun J h1 h2 => rb_World_gatherMarked_4 (loop N 0 J z4 (by omega) h1 h2)))
end
section
variable {n : Nat} {xs : Nat → Int32} {I : Nat → Nat → Int32} {L : Nat → Nat → Int64}
/-- a fraction told by both -/
theorem br_Inv_f {I2 : Nat → Nat → Int32} {L2 : Nat → Nat → Int64} (h : br_Inv xs I L) (hI2 : ∀ p j, ¬ br_scr p j → I2 p j = I p j) (hL : ∀ p j, ¬ (70 ≤ p ∧ p ≤ 74) → p ≠ 169 → L2 p j = L p j) (h0 : L2 72 0 = L2 169 19) (h1 : L2 72 1 = L2 169 20) (h2 : 0 ≤ (L2 72 1).toInt) : br_Inv xs I2 L2 :=
  br_Inv_c h (fun p j hp => hI2 p j (by unfold br_scr; unfold br_kA br_kO at hp; omega)) (fun p j hp => hL p j (by unfold br_kL at hp; omega) (by unfold br_kL at hp; omega)) ⟨h0, h1, h2⟩
theorem bp_same (hI : br_Inv xs I L) (x1 : Int32) : br_pair n xs 158 277 [some (.ref 8), some (.int x1)] [some (.ref 169), some (.int x1), none, none, none, none, none, none, none, none, none, none, none] I L := by
  obtain ⟨N, R, hN, hR, eN, eR, a3, a4, a5⟩ := hI.1.2.1
  rw [Nat.zero_add] at eN eR
  have cN : I 9 8 = nI N := (bi_children hI.1.1).trans eN
  have cR : I 9 2 = nI R := (bi_rooms hI.1.1).trans eR
  have bS := bb_nmarks hI.1.1
  rw [Nat.zero_add] at bS
  obtain ⟨S, eS, hS⟩ := br_nN bS.1
  have hS40 : S ≤ 40 := by omega
  by_cases h1 : 0 ≤ x1.toInt ∧ x1.toInt < 6
  · obtain ⟨t, ht, rfl⟩ := br_of (N := 6) (br_inT.mpr h1)
    intro d Q K
    generalize hl : bs_l (bm_mP (I 171) t S) (bm_mE (I 171) t S) N = l
    have l40 : l.length ≤ 40 := by rw [← hl]; have := bs_l_len (P := bm_mP (I 171) t S) (E := bm_mE (I 171) t S) N; omega
    have hbl : br_bl l := by
      intro e he
      rw [← hl] at he
      obtain ⟨c, hc, hp, ee⟩ := bs_l_mem N he
      subst ee
      have b1 := br_ptb hI.1 ht (c := c) (by omega)
      have b2 := bm_mk_b hI.1 (c := c) (t := t) S hS40
      have zm : (-(nI 1)).toInt = -1 := br_negT (by omega)
      have b3 : -1 ≤ (bm_mk (I 171) c t S).toInt ∧ (bm_mk (I 171) c t S).toInt ≤ 200 := by
        rcases b2 with b2 | b2
        · rw [b2]; omega
        · omega
      show -400 ≤ (I 171 (867 + (40 * t + c)) - bm_mk (I 171) c t S).toInt ∧ (I 171 (867 + (40 * t + c)) - bm_mk (I 171) c t S).toInt ≤ 400
      rw [br_subT (by omega) (by omega)]; omega
    have hV := bs_V_T l40
    have hU := (bs_U_T hbl l40).2
    have fin : ∀ J : Nat → Nat → Int32, (∀ p, ¬ (64 ≤ p ∧ p ≤ 67) → J p = I p) → Q (some (.int (nI (decide (0 < (bs_V l).toInt)).toNat))) (br_hp n J (br_u (br_u L 72 0 (bf_u (bs_U l) (bs_V l))) 72 1 (bf_l (bs_U l) (bs_V l)))) := by
      intro J hJ
      refine K _ J _ (fun j => by rw [hJ 1 (by omega)]) (fun d' Q' k' => ?_)
      have eg : br_u J 169 0 (nI 0) 171 = I 171 := by rw [br_u_q (by omega), hJ 171 (by omega)]
      generalize hL1 : br_u (br_u L 72 0 (bf_u (bs_U l) (bs_V l))) 72 1 (bf_l (bs_U l) (bs_V l)) = L1
      have fin2 : Q' (some (.int (nI (decide (0 < (bs_V l).toInt)).toNat))) (br_hp n (br_u J 169 0 (nI 0)) (br_u (br_u L1 169 19 (bf_u (bs_U l) (bs_V l))) 169 20 (bf_l (bs_U l) (bs_V l)))) := by
        refine k' _ _ (br_Inv_f hI (fun p j hp => by unfold br_scr at hp; rw [br_u_n (by omega), hJ p (by omega)]) (fun p j hp hp2 => ?_) ?_ ?_ ?_)
        · rw [br_u_n (by omega), br_u_n (by omega), ← hL1, br_u_n (by omega), br_u_n (by omega)]
        · rw [br_u_n (by omega), br_u_n (by omega), ← hL1, br_u_n (by omega), br_u_s, br_u_n (by omega), br_u_s]
        · rw [br_u_n (by omega), br_u_n (by omega), ← hL1, br_u_s, br_u_s]
        · rw [br_u_n (by omega), br_u_n (by omega), ← hL1, br_u_s]; exact bf_l_nn
      have ll : ∀ c, (bs_l (bm_mP (I 171) t S) (bm_mE (I 171) t S) c).length ≤ c := fun c => bs_l_len c
      have loop : ∀ k c (z11 z12 : Option Value), c + k = N → br_r (d' + 80) 277 33 [some (.ref 169), some (.int (nI t)), some (.long (bs_s true (bs_l (bm_mP (I 171) t S) (bm_mE (I 171) t S) c))), none, some (.long (lN (bs_n true (bs_l (bm_mP (I 171) t S) (bm_mE (I 171) t S) c)))), none, some (.long (bs_s false (bs_l (bm_mP (I 171) t S) (bm_mE (I 171) t S) c))), none, some (.long (lN (bs_n false (bs_l (bm_mP (I 171) t S) (bm_mE (I 171) t S) c)))), none, some (.int (nI c)), z11, z12] [] (br_hp n (br_u J 169 0 (nI 0)) L1) Q' := by
        intro k
        induction k with
        | zero =>
          intro c z11 z12 hc
          have : c = N := by omega
          subst this
          refine rb_M_same_33 (br_t (by rw [eg, eN]; exact nI_le (Nat.le_refl _) (by omega)) (rb_M_tellsMeans_0 ?_))
          rw [hl]
          refine rs_M_tells ?_ ?_ (rb_M_tellsMeans_17 (rb_M_same_182 fin2))
          · show -9223372036854775808 < (bs_U l).toInt
            omega
          · show 0 ≤ (bs_V l).toInt
            omega
        | succ k ih =>
          intro c z11 z12 hc
          have h5 := fun z11 z12 => ih (c + 1) z11 z12 (by omega)
          refine rb_M_same_33 (br_f (by rw [eg, eN]; exact nI_ge (by omega) (by omega)) (rs_M_markOf eg eS hS40 (rb_M_same_53 ?_)))
          rw [nI_add]
          refine ⟨fun h => ?_, fun h => rs_pointOf (by omega) ht (rb_M_same_68 ?_)⟩
          · have hF : bm_mP (I 171) t S c = false := by unfold bm_mP; rw [decide_eq_true h]; simp
            rw [bs_l_F hF] at h5
            exact h5 _ _
          · rw [eg, nI_add]
            refine ⟨fun h2 => rs_pointOf (by omega) ht (rb_M_same_82 (rs_M_isNamed eg (by omega) (rb_M_same_94 ?_))), fun h2 => ?_⟩
            · have hT : bm_mP (I 171) t S c = true := by unfold bm_mP; rw [decide_eq_false h, decide_eq_false h2]; rfl
              rw [bs_l_T hT] at h5
              rw [eg, bu_nI0]
              refine ⟨fun h6 => rs_M_isNamed eg (by omega) (rb_M_same_114 ?_), fun h6 => rs_M_isNamed eg (by omega) (rb_M_same_114 ?_)⟩
              · have he : (bm_mE (I 171) t S c).2.2 = false := h6
                have hb : nI (decide (I 171 (787 + c) = nI 1)).toNat = nI 0 := by rw [h6]; rfl
                rw [bs_s_F (by rw [he]; exact fun z => by cases z), bs_s_T he, bs_n_F (by rw [he]; exact fun z => by cases z), bs_n_T he, ← lN_add, ← nI_add] at h5
                refine br_t hb (rs_M_isNamed eg (by omega) (rb_M_same_133 (br_t hb (rs_M_isNamed eg (by omega) (rb_M_same_154 (br_t hb ?_))))))
                rw [br_l0, br_l0]
                exact h5 _ _
              · rw [Bool.not_eq_false] at h6
                have he : (bm_mE (I 171) t S c).2.2 = true := h6
                have hb : ¬ nI (decide (I 171 (787 + c) = nI 1)).toNat = nI 0 := by rw [h6]; exact br_10
                rw [bs_s_T he, bs_s_F (by rw [he]; exact fun z => by cases z), bs_n_T he, bs_n_F (by rw [he]; exact fun z => by cases z), ← lN_add, ← nI_add] at h5
                refine br_f hb (rs_M_isNamed eg (by omega) (rb_M_same_133 (br_f hb (rs_M_isNamed eg (by omega) (rb_M_same_154 (br_f hb ?_))))))
                rw [br_l0, br_l0]
                exact h5 _ _
            · have hF : bm_mP (I 171) t S c = false := by unfold bm_mP; rw [decide_eq_true (Classical.not_not.mp h2)]; simp
              rw [bs_l_F hF] at h5
              exact h5 _ _
      exact rb_M_same_0 (rs_isTest_T h1 (rb_M_same_9 (br_t br_10 (loop N 0 none none (by omega)))))
    refine rb_A_same_0 (rs_noTest_F h1 (rb_A_same_4 (br_t rfl (rs_W_gatherMarked hI.1 hN eN eS hS40 ht (fun J hJ hs => rb_A_same_25 ?_)))))
    rw [hl] at hs
    refine rs_difference hs hbl rfl (rb_A_same_36 (rs_isNone rfl (rb_A_same_43 ?_)))
    have f5 := fin J hJ
    rw [br_u_s, bu_nI0]
    have iff := bf_l_iff (u := bs_U l) (l := bs_V l)
    refine ⟨fun h => ?_, fun h => ?_⟩
    · have h6 : 0 < (bs_V l).toInt := iff.mp (Classical.not_not.mp (of_decide_eq_false h))
      rw [bu_dT h6] at f5; exact f5
    · rw [Bool.not_eq_false] at h
      have h6 : ¬ 0 < (bs_V l).toInt := fun z => (of_decide_eq_true h) (iff.mpr z)
      rw [bu_dF h6] at f5; exact f5
  · refine br_pair_no hI (k := 2) (by omega) (v := -(nI 2)) (fun d Q H => ?_) (fun d Q H => ?_)
    · repeat (first
        | exact H
        | (refine br_t ?_ ?_; (focus ((first | rfl | assumption | exact fun z => z rfl | omega | (simp (disch := omega) only [not_true_eq_false, not_false_eq_true, br_u_s, br_u_n, br_u_q, nI_eq, nI_clamp, nI_add, pk_mul, br_R17, br_S17, pk_sub_toInt, br_ltT, br_leT, br_inT, br_nT, br_negT, br_b_0, br_b_1, Int32.toInt_toInt64, pk_lT, br_lnegT, cN] <;> omega)); done)))
        | (refine br_f ?_ ?_; (focus ((first | rfl | assumption | exact fun z => z rfl | omega | (simp (disch := omega) only [not_true_eq_false, not_false_eq_true, br_u_s, br_u_n, br_u_q, nI_eq, nI_clamp, nI_add, pk_mul, br_R17, br_S17, pk_sub_toInt, br_ltT, br_leT, br_inT, br_nT, br_negT, br_b_0, br_b_1, Int32.toInt_toInt64, pk_lT, br_lnegT, cN] <;> omega)); done)))
        | refine rb_A_same_0 ?_
        | refine rb_A_same_4 ?_
        | refine rb_A_same_12 ?_
        | refine rb_A_same_25 ?_
        | refine rb_A_same_36 ?_
        | refine rb_A_same_43 ?_
        | (refine rs_out_F ?_ ?_; (focus ((first | rfl | assumption | exact fun z => z rfl | omega | (simp (disch := omega) only [not_true_eq_false, not_false_eq_true, br_u_s, br_u_n, br_u_q, nI_eq, nI_clamp, nI_add, pk_mul, br_R17, br_S17, pk_sub_toInt, br_ltT, br_leT, br_inT, br_nT, br_negT, br_b_0, br_b_1, Int32.toInt_toInt64, pk_lT, br_lnegT, cN] <;> omega)); done)))
        | (refine rs_out_T ?_ ?_; (focus ((first | rfl | assumption | exact fun z => z rfl | omega | (simp (disch := omega) only [not_true_eq_false, not_false_eq_true, br_u_s, br_u_n, br_u_q, nI_eq, nI_clamp, nI_add, pk_mul, br_R17, br_S17, pk_sub_toInt, br_ltT, br_leT, br_inT, br_nT, br_negT, br_b_0, br_b_1, Int32.toInt_toInt64, pk_lT, br_lnegT, cN] <;> omega)); done)))
        | (refine rs_noChild_F (N := N) ?_ ?_ ?_ ?_; (focus ((first | rfl | assumption | exact fun z => z rfl | omega | (simp (disch := omega) only [not_true_eq_false, not_false_eq_true, br_u_s, br_u_n, br_u_q, nI_eq, nI_clamp, nI_add, pk_mul, br_R17, br_S17, pk_sub_toInt, br_ltT, br_leT, br_inT, br_nT, br_negT, br_b_0, br_b_1, Int32.toInt_toInt64, pk_lT, br_lnegT, cN] <;> omega)); done)); (focus ((first | rfl | assumption | exact fun z => z rfl | omega | (simp (disch := omega) only [not_true_eq_false, not_false_eq_true, br_u_s, br_u_n, br_u_q, nI_eq, nI_clamp, nI_add, pk_mul, br_R17, br_S17, pk_sub_toInt, br_ltT, br_leT, br_inT, br_nT, br_negT, br_b_0, br_b_1, Int32.toInt_toInt64, pk_lT, br_lnegT, cN] <;> omega)); done)); (focus ((first | rfl | assumption | exact fun z => z rfl | omega | (simp (disch := omega) only [not_true_eq_false, not_false_eq_true, br_u_s, br_u_n, br_u_q, nI_eq, nI_clamp, nI_add, pk_mul, br_R17, br_S17, pk_sub_toInt, br_ltT, br_leT, br_inT, br_nT, br_negT, br_b_0, br_b_1, Int32.toInt_toInt64, pk_lT, br_lnegT, cN] <;> omega)); done)))
        | (refine rs_noChild_T (N := N) ?_ ?_ ?_ ?_; (focus ((first | rfl | assumption | exact fun z => z rfl | omega | (simp (disch := omega) only [not_true_eq_false, not_false_eq_true, br_u_s, br_u_n, br_u_q, nI_eq, nI_clamp, nI_add, pk_mul, br_R17, br_S17, pk_sub_toInt, br_ltT, br_leT, br_inT, br_nT, br_negT, br_b_0, br_b_1, Int32.toInt_toInt64, pk_lT, br_lnegT, cN] <;> omega)); done)); (focus ((first | rfl | assumption | exact fun z => z rfl | omega | (simp (disch := omega) only [not_true_eq_false, not_false_eq_true, br_u_s, br_u_n, br_u_q, nI_eq, nI_clamp, nI_add, pk_mul, br_R17, br_S17, pk_sub_toInt, br_ltT, br_leT, br_inT, br_nT, br_negT, br_b_0, br_b_1, Int32.toInt_toInt64, pk_lT, br_lnegT, cN] <;> omega)); done)); (focus ((first | rfl | assumption | exact fun z => z rfl | omega | (simp (disch := omega) only [not_true_eq_false, not_false_eq_true, br_u_s, br_u_n, br_u_q, nI_eq, nI_clamp, nI_add, pk_mul, br_R17, br_S17, pk_sub_toInt, br_ltT, br_leT, br_inT, br_nT, br_negT, br_b_0, br_b_1, Int32.toInt_toInt64, pk_lT, br_lnegT, cN] <;> omega)); done)))
        | (refine rs_noTest_F ?_ ?_; (focus ((first | rfl | assumption | exact fun z => z rfl | omega | (simp (disch := omega) only [not_true_eq_false, not_false_eq_true, br_u_s, br_u_n, br_u_q, nI_eq, nI_clamp, nI_add, pk_mul, br_R17, br_S17, pk_sub_toInt, br_ltT, br_leT, br_inT, br_nT, br_negT, br_b_0, br_b_1, Int32.toInt_toInt64, pk_lT, br_lnegT, cN] <;> omega)); done)))
        | (refine rs_noTest_T ?_ ?_; (focus ((first | rfl | assumption | exact fun z => z rfl | omega | (simp (disch := omega) only [not_true_eq_false, not_false_eq_true, br_u_s, br_u_n, br_u_q, nI_eq, nI_clamp, nI_add, pk_mul, br_R17, br_S17, pk_sub_toInt, br_ltT, br_leT, br_inT, br_nT, br_negT, br_b_0, br_b_1, Int32.toInt_toInt64, pk_lT, br_lnegT, cN] <;> omega)); done)))
        | (refine rs_refuse ?_ ?_; (focus ((first | rfl | assumption | exact fun z => z rfl | omega | (simp (disch := omega) only [not_true_eq_false, not_false_eq_true, br_u_s, br_u_n, br_u_q, nI_eq, nI_clamp, nI_add, pk_mul, br_R17, br_S17, pk_sub_toInt, br_ltT, br_leT, br_inT, br_nT, br_negT, br_b_0, br_b_1, Int32.toInt_toInt64, pk_lT, br_lnegT, cN] <;> omega)); done)))
        | (refine And.intro ?_ ?_; (focus ((first | rfl | assumption | exact fun z => z rfl | omega | (simp (disch := omega) only [not_true_eq_false, not_false_eq_true, br_u_s, br_u_n, br_u_q, nI_eq, nI_clamp, nI_add, pk_mul, br_R17, br_S17, pk_sub_toInt, br_ltT, br_leT, br_inT, br_nT, br_negT, br_b_0, br_b_1, Int32.toInt_toInt64, pk_lT, br_lnegT, cN] <;> omega)); done))))
    · repeat (first
        | exact H
        | (refine br_t ?_ ?_; (focus ((first | rfl | assumption | exact fun z => z rfl | omega | (simp (disch := omega) only [not_true_eq_false, not_false_eq_true, br_u_s, br_u_n, br_u_q, nI_eq, nI_clamp, nI_add, pk_mul, br_R17, br_S17, pk_sub_toInt, br_ltT, br_leT, br_inT, br_nT, br_negT, br_b_0, br_b_1, Int32.toInt_toInt64, pk_lT, br_lnegT, eN] <;> omega)); done)))
        | (refine br_f ?_ ?_; (focus ((first | rfl | assumption | exact fun z => z rfl | omega | (simp (disch := omega) only [not_true_eq_false, not_false_eq_true, br_u_s, br_u_n, br_u_q, nI_eq, nI_clamp, nI_add, pk_mul, br_R17, br_S17, pk_sub_toInt, br_ltT, br_leT, br_inT, br_nT, br_negT, br_b_0, br_b_1, Int32.toInt_toInt64, pk_lT, br_lnegT, eN] <;> omega)); done)))
        | refine rb_M_same_0 ?_
        | refine rb_M_same_9 ?_
        | refine rb_M_same_18 ?_
        | refine rb_M_same_53 ?_
        | refine rb_M_same_68 ?_
        | refine rb_M_same_82 ?_
        | refine rb_M_same_94 ?_
        | refine rb_M_same_114 ?_
        | refine rb_M_same_133 ?_
        | refine rb_M_same_154 ?_
        | refine rb_M_same_182 ?_
        | (refine rs_wi_T ?_ ?_; (focus ((first | rfl | assumption | exact fun z => z rfl | omega | (simp (disch := omega) only [not_true_eq_false, not_false_eq_true, br_u_s, br_u_n, br_u_q, nI_eq, nI_clamp, nI_add, pk_mul, br_R17, br_S17, pk_sub_toInt, br_ltT, br_leT, br_inT, br_nT, br_negT, br_b_0, br_b_1, Int32.toInt_toInt64, pk_lT, br_lnegT, eN] <;> omega)); done)))
        | (refine rs_wi_F ?_ ?_; (focus ((first | rfl | assumption | exact fun z => z rfl | omega | (simp (disch := omega) only [not_true_eq_false, not_false_eq_true, br_u_s, br_u_n, br_u_q, nI_eq, nI_clamp, nI_add, pk_mul, br_R17, br_S17, pk_sub_toInt, br_ltT, br_leT, br_inT, br_nT, br_negT, br_b_0, br_b_1, Int32.toInt_toInt64, pk_lT, br_lnegT, eN] <;> omega)); done)))
        | (refine rs_isChild_T (N := N) ?_ ?_ ?_ ?_; (focus ((first | rfl | assumption | exact fun z => z rfl | omega | (simp (disch := omega) only [not_true_eq_false, not_false_eq_true, br_u_s, br_u_n, br_u_q, nI_eq, nI_clamp, nI_add, pk_mul, br_R17, br_S17, pk_sub_toInt, br_ltT, br_leT, br_inT, br_nT, br_negT, br_b_0, br_b_1, Int32.toInt_toInt64, pk_lT, br_lnegT, eN] <;> omega)); done)); (focus ((first | rfl | assumption | exact fun z => z rfl | omega | (simp (disch := omega) only [not_true_eq_false, not_false_eq_true, br_u_s, br_u_n, br_u_q, nI_eq, nI_clamp, nI_add, pk_mul, br_R17, br_S17, pk_sub_toInt, br_ltT, br_leT, br_inT, br_nT, br_negT, br_b_0, br_b_1, Int32.toInt_toInt64, pk_lT, br_lnegT, eN] <;> omega)); done)); (focus ((first | rfl | assumption | exact fun z => z rfl | omega | (simp (disch := omega) only [not_true_eq_false, not_false_eq_true, br_u_s, br_u_n, br_u_q, nI_eq, nI_clamp, nI_add, pk_mul, br_R17, br_S17, pk_sub_toInt, br_ltT, br_leT, br_inT, br_nT, br_negT, br_b_0, br_b_1, Int32.toInt_toInt64, pk_lT, br_lnegT, eN] <;> omega)); done)))
        | (refine rs_isChild_F (N := N) ?_ ?_ ?_ ?_; (focus ((first | rfl | assumption | exact fun z => z rfl | omega | (simp (disch := omega) only [not_true_eq_false, not_false_eq_true, br_u_s, br_u_n, br_u_q, nI_eq, nI_clamp, nI_add, pk_mul, br_R17, br_S17, pk_sub_toInt, br_ltT, br_leT, br_inT, br_nT, br_negT, br_b_0, br_b_1, Int32.toInt_toInt64, pk_lT, br_lnegT, eN] <;> omega)); done)); (focus ((first | rfl | assumption | exact fun z => z rfl | omega | (simp (disch := omega) only [not_true_eq_false, not_false_eq_true, br_u_s, br_u_n, br_u_q, nI_eq, nI_clamp, nI_add, pk_mul, br_R17, br_S17, pk_sub_toInt, br_ltT, br_leT, br_inT, br_nT, br_negT, br_b_0, br_b_1, Int32.toInt_toInt64, pk_lT, br_lnegT, eN] <;> omega)); done)); (focus ((first | rfl | assumption | exact fun z => z rfl | omega | (simp (disch := omega) only [not_true_eq_false, not_false_eq_true, br_u_s, br_u_n, br_u_q, nI_eq, nI_clamp, nI_add, pk_mul, br_R17, br_S17, pk_sub_toInt, br_ltT, br_leT, br_inT, br_nT, br_negT, br_b_0, br_b_1, Int32.toInt_toInt64, pk_lT, br_lnegT, eN] <;> omega)); done)))
        | (refine rs_isTest_T ?_ ?_; (focus ((first | rfl | assumption | exact fun z => z rfl | omega | (simp (disch := omega) only [not_true_eq_false, not_false_eq_true, br_u_s, br_u_n, br_u_q, nI_eq, nI_clamp, nI_add, pk_mul, br_R17, br_S17, pk_sub_toInt, br_ltT, br_leT, br_inT, br_nT, br_negT, br_b_0, br_b_1, Int32.toInt_toInt64, pk_lT, br_lnegT, eN] <;> omega)); done)))
        | (refine rs_isTest_F ?_ ?_; (focus ((first | rfl | assumption | exact fun z => z rfl | omega | (simp (disch := omega) only [not_true_eq_false, not_false_eq_true, br_u_s, br_u_n, br_u_q, nI_eq, nI_clamp, nI_add, pk_mul, br_R17, br_S17, pk_sub_toInt, br_ltT, br_leT, br_inT, br_nT, br_negT, br_b_0, br_b_1, Int32.toInt_toInt64, pk_lT, br_lnegT, eN] <;> omega)); done)))
        | (refine rs_no ?_ ?_; (focus ((first | rfl | assumption | exact fun z => z rfl | omega | (simp (disch := omega) only [not_true_eq_false, not_false_eq_true, br_u_s, br_u_n, br_u_q, nI_eq, nI_clamp, nI_add, pk_mul, br_R17, br_S17, pk_sub_toInt, br_ltT, br_leT, br_inT, br_nT, br_negT, br_b_0, br_b_1, Int32.toInt_toInt64, pk_lT, br_lnegT, eN] <;> omega)); done)))
        | (refine rs_pointOf ?_ ?_ ?_; (focus ((first | rfl | assumption | exact fun z => z rfl | omega | (simp (disch := omega) only [not_true_eq_false, not_false_eq_true, br_u_s, br_u_n, br_u_q, nI_eq, nI_clamp, nI_add, pk_mul, br_R17, br_S17, pk_sub_toInt, br_ltT, br_leT, br_inT, br_nT, br_negT, br_b_0, br_b_1, Int32.toInt_toInt64, pk_lT, br_lnegT, eN] <;> omega)); done)); (focus ((first | rfl | assumption | exact fun z => z rfl | omega | (simp (disch := omega) only [not_true_eq_false, not_false_eq_true, br_u_s, br_u_n, br_u_q, nI_eq, nI_clamp, nI_add, pk_mul, br_R17, br_S17, pk_sub_toInt, br_ltT, br_leT, br_inT, br_nT, br_negT, br_b_0, br_b_1, Int32.toInt_toInt64, pk_lT, br_lnegT, eN] <;> omega)); done)))
        | (refine And.intro ?_ ?_; (focus ((first | rfl | assumption | exact fun z => z rfl | omega | (simp (disch := omega) only [not_true_eq_false, not_false_eq_true, br_u_s, br_u_n, br_u_q, nI_eq, nI_clamp, nI_add, pk_mul, br_R17, br_S17, pk_sub_toInt, br_ltT, br_leT, br_inT, br_nT, br_negT, br_b_0, br_b_1, Int32.toInt_toInt64, pk_lT, br_lnegT, eN] <;> omega)); done))))
end
