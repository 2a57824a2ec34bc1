set_option maxRecDepth 100000
set_option maxHeartbeats 4000000
/-! films dealt anew -/
theorem bs_s_x {w : Bool} (l : List bs_E) : br_bl l → l.length ≤ 1000 → (bs_s w l).toInt = an_x (fun v => v) w l := by
  refine bs_ind (P := fun l => br_bl l → l.length ≤ 1000 → (bs_s w l).toInt = an_x (fun v => v) w l) (fun _ _ => pk_lT (by omega)) (fun l e ih hb hl => ?_) l
  rw [List.length_append] at hl
  have l1 : [e].length = 1 := rfl
  rw [l1] at hl
  have hb' : br_bl l := fun e' he' => hb e' (List.mem_append.mpr (Or.inl he'))
  have h1 := ih hb' (by omega)
  have h2 := hb e (List.mem_append.mpr (Or.inr (List.mem_singleton.mpr rfl)))
  have h3 := bs_s_b (w := w) l hb' (by omega)
  by_cases he : e.2.2 = w
  · have h4 : e.2.1.toInt64.toInt = e.2.1.toInt := Int32.toInt_toInt64 _
    rw [bs_s_T he, an_x_T he, br_laddT (by rw [h4]; omega) (by rw [h4]; omega), h4, h1]
  · rw [bs_s_F he, an_x_F he, h1]
theorem an_x_0 {w : Bool} {l : List bs_E} : an_x (fun v => v - 0) w l = an_x (fun v => v) w l := by
  congr 1
  funext v; omega
theorem bw_room {g : Nat → Int32} {y F : Nat} : ∀ e, e ∈ bs_l (bw_P g y) (bw_E g) F → e.1 = 0 := fun e he => by
  obtain ⟨c, _, _, h⟩ := bs_l_mem F he
  rw [h]; rfl
theorem bs_r_all {l : List bs_E} (h : ∀ e, e ∈ l → e.1 = 0) : bs_r 0 l = l := by
  unfold bs_r
  exact List.filter_eq_self.mpr (fun e he => by simp [h e he])
theorem bw_v {f : Nat → Nat → Int32} {g : Nat → Int32} (hW : br_cel 9 0 f g) {y F : Nat} (hF : F ≤ 24) : ∀ e, e ∈ bs_l (bw_P g y) (bw_E g) F → 0 ≤ e.2.1.toInt ∧ e.2.1.toInt ≤ 99 := by
  intro e he
  obtain ⟨c, hc, hp, ee⟩ := bs_l_mem F he
  subst ee
  have b := bb_fseen hW (j := c) (by omega)
  rw [Nat.zero_add] at b
  show 0 ≤ (g (1163 + c)).toInt ∧ (g (1163 + c)).toInt ≤ 99
  omega
section
variable {d n : Nat} {Q : br_Q} {I J : Nat → Nat → Int32} {L : Nat → Nat → Int64} {g : Nat → Int32}
theorem rs_M_blind {y F : Nat} {f : Nat → Nat → Int32} {l : List bs_E} {z2 z3 : Option Value} (hg : J 171 = g) (hW : br_cel 9 0 f g) (hF : F ≤ 24) (eF : g 1114 = nI F) (hy : y ≤ 2) (hl : l = bs_l (bw_P g y) (bw_E g) F) (hw : br_wy J L)
    (H : ∀ (J' : Nat → Nat → Int32) (L' : Nat → Nat → Int64), (∀ p j, ¬ (p = 169 ∧ (j = 24 ∨ j = 25 ∨ j = 26)) → J' p j = J p j) → (∀ q j, q ≠ 177 → q ≠ 169 → L' q j = L q j) → (∀ j, j ≠ 19 → j ≠ 20 → L' 169 j = L 169 j) → br_wy J' L' → L' 169 19 = an_u l → L' 169 20 = an_l l → Q (some (.int (br_b (an_sp l)))) (br_hp n J' L')) :
    br_r (d + 3) 272 0 [some (.ref 169), some (.int (nI y)), z2, z3] [] (br_hp n J L) Q := by
  have hlen : l.length ≤ 24 := by rw [hl]; have := bs_l_len (P := bw_P g y) (E := bw_E g) F; omega
  have nsum := bs_n_sum l
  have hvl := bw_v hW (y := y) hF
  have hbl := bw_bl hW (y := y) hF
  have hrm := bw_room (g := g) (y := y) (F := F)
  rw [← hl] at hvl hbl hrm
  have hra := bs_r_all hrm
  have z0 : (lN 0).toInt = 0 := pk_lT (by omega)
  have eM : an_M l 0 1 = an_o [0] (br_si (an_ws 0 l) (bs_n true l)) := by
    show an_o [0] (br_si ((an_v (bs_r 0 l)).map (fun v => v - 0)) (bs_n true (bs_r 0 l))) = _
    rw [hra]; rfl
  have eY : an_Y l 0 1 = an_x (fun v => v) true l := by
    show 0 + an_x (fun v => v - 0) true (bs_r 0 l) = _
    rw [hra, an_x_0, Int.zero_add]
  have hx := bs_s_x (w := true) l hbl (by omega)
  have hxb := an_x_b (f := fun v => v) (w := true) (K := 99) l (fun e he => hvl e he)
  have hn := bs_n_le (w := true) l
  have eB : (an_M l 0 1).length = an_B l ∧ (an_M l 0 1).countP (fun t => decide (an_Y l 0 1 ≤ t)) = an_A l := by
    have h1 := an_model l 0 1
    have h2 := an_T_more (l := l) (R := 1) (fun e he => by rw [hrm e he]; omega) 17
    unfold an_B an_A
    rw [h2.1, h2.2]
    exact ⟨h1.2, h1.1⟩
  rw [eM, eY] at eB
  have hB := an_B_le (l := l) (by omega)
  have hBp := an_B_pos l
  generalize hk : bs_n true l = k at *
  have no : ∀ z3 : Option Value, ¬ an_sp l → br_r (d + 2) 251 0 [some (.ref 169), some (.long (lN 0)), none, some (.long (lN 0)), none, none, none] [] (br_hp n J L) (fun v h => br_r (d + 3) 272 31 [some (.ref 169), some (.int (nI y)), some (.int (nI k)), z3] (v.toList ++ []) (br_bk h) Q) := by
    intro z3 hns
    refine rs_M_tells (by rw [z0]; omega) (by rw [z0]; omega) (rb_M_tellsBlind_31 ?_)
    rw [decide_eq_false (by rw [z0]; omega), bf_uF (by rw [z0]; omega), bf_lF (by rw [z0]; omega)]
    have h9 := H J (br_u (br_u L 169 19 (lN 0)) 169 20 (lN 0)) (fun _ _ _ => rfl) (fun q j h1 h2 => by rw [br_u_n (by omega), br_u_n (by omega)]) (fun j h1 h2 => by rw [br_u_n (by omega), br_u_n (by omega)]) (br_wy_c hw rfl rfl (fun j => by rw [br_u_n (by omega), br_u_n (by omega)])) (by rw [br_u_n (by omega), br_u_s, an_u_F hns]) (by rw [br_u_s, an_l_F hns])
    rw [br_b_F hns] at h9
    exact h9
  refine rb_M_tellsBlind_0 (rs_M_filmed (w := true) (b := false) hg hW hF eF ?_)
  rw [← hl, if_neg Bool.false_ne_true, hk]
  refine rb_M_tellsBlind_7 ?_
  rw [lN_i, nI_eq (a := k) (b := 0) (by omega) (by omega)]
  refine ⟨fun h => no _ (fun z => by have := z.1; omega), fun h => rs_M_filmed (w := false) (b := false) hg hW hF eF ?_⟩
  rw [← hl, if_neg Bool.false_ne_true]
  refine rb_M_tellsBlind_20 ?_
  rw [br_cmpE, pk_lEQ (a := bs_n false l) (b := 0) (by omega) (by omega)]
  refine ⟨fun h2 => ?_, fun h2 => no _ (fun z => by have := z.2; omega)⟩
  have hsp : an_sp l := ⟨by omega, by omega⟩
  obtain ⟨t, s, ht, hs, et, es, hz⟩ := hw
  refine rs_M_clears ht hs et es hz (fun L1 hL1 hT1 => rb_M_tellsBlind_36 ?_)
  have loop : ∀ m cc (J2 : Nat → Nat → Int32) (L2 : Nat → Nat → Int64) (s2 : Nat), cc + m = F → (∀ p j, ¬ (p = 169 ∧ (j = 24 ∨ j = 25 ∨ j = 26)) → J2 p j = J p j) → (∀ q j, q ≠ 177 → L2 q j = L q j) → J2 169 24 = nI (bs_l (bw_P g y) (bw_E g) cc).length → J2 169 25 = nI (min k (bs_l (bw_P g y) (bw_E g) cc).length) → J2 169 26 = nI s2 → s2 ≤ 400 * (bs_l (bw_P g y) (bw_E g) cc).length → bt_T L2 (an_Wk [0] (an_ws 0 (bs_l (bw_P g y) (bw_E g) cc)) k) → (∀ k' a, a ∈ an_o [0] (br_si (an_ws 0 (bs_l (bw_P g y) (bw_E g) cc)) k') → 0 ≤ a ∧ a ≤ s2) →
      br_r (d + 3) 272 38 [some (.ref 169), some (.int (nI y)), some (.int (nI k)), some (.int (nI cc))] [] (br_hp n J2 L2) Q := by
    intro m
    induction m with
    | zero =>
      intro cc J2 L2 s2 hcc hJ hL q1 q2 q3 q4 q5 q6
      have : cc = F := by omega
      subst this
      rw [← hl] at q1 q2 q4 q5 q6
      have j171 : J2 171 = g := by rw [← hg]; funext j; exact hJ 171 j (by omega)
      refine rb_M_tellsBlind_38 (br_t (by rw [j171, eF]; exact nI_le (Nat.le_refl _) (by omega)) ?_)
      refine rs_M_closes q5 (by omega) (by omega) (t := k) (s := s2) (by omega) (by omega) (by rw [q2]; congr 1; omega) q3 (fun k' x _ _ h5 => ?_) (fun L' hL' hT' => ?_)
      · unfold an_Wk
        by_cases h6 : k' ≤ k
        · rw [if_pos h6, an_c0 (fun a' ha' => ?_)]
          have := q6 k' a' ha'
          simp only [decide_eq_true_eq]; omega
        · rw [if_neg h6]
      · have fJ : ∀ p j, ¬ (p = 169 ∧ (j = 24 ∨ j = 25 ∨ j = 26)) → br_u (br_u J2 169 24 (nI 0)) 169 25 (nI 0) p j = J p j := fun p j hp => by rw [br_u_n (by omega), br_u_n (by omega)]; exact hJ p j hp
        have j171' : br_u (br_u J2 169 24 (nI 0)) 169 25 (nI 0) 171 = g := by rw [← hg]; funext j; exact fJ 171 j (by omega)
        refine rb_M_tellsBlind_90 (rs_M_filmed (w := true) (b := true) j171' hW hF eF ?_)
        rw [← hl, if_pos rfl]
        refine rb_M_tellsBlind_98 ?_
        have e3 : (bs_s true l).toInt32 = nI (an_x (fun v => v) true l).toNat := by
          have e4 : bs_s true l = lN (an_x (fun v => v) true l).toNat := Int64.toInt_inj.mp (by rw [pk_lT (by omega), hx]; omega)
          rw [e4, lN_i]
        rw [e3]
        have W0 : ∀ x, x ≤ s2 → an_Wk [0] (an_ws 0 l) k k x = lN ((an_o [0] (br_si (an_ws 0 l) k)).countP (fun a => decide (a = (x : Int)))) := fun x _ => if_pos (Nat.le_refl k)
        have q6k := q6 k
        generalize hS : an_o [0] (br_si (an_ws 0 l) k) = S at *
        have c1 := an_hi_c (W := fun x => an_Wk [0] (an_ws 0 l) k k x) (S := S) (m := (an_x (fun v => v) true l).toNat) (s := s2) (by omega) (by omega) (fun a' ha' => (q6k a' ha').1) W0 (s2 + 1) (Nat.le_refl _)
        have c2 := an_all_c (W := fun x => an_Wk [0] (an_ws 0 l) k k x) (S := S) (s := s2) (fun a' ha' => (q6k a' ha').1) W0 (s2 + 1) (Nat.le_refl _)
        have e1 : S.countP (fun a => decide ((((an_x (fun v => v) true l).toNat : Nat) : Int) ≤ a) && decide (a < ((s2 + 1 : Nat) : Int))) = an_A l := by
          rw [← eB.2]
          refine an_cc (fun a' ha' => ?_)
          have := q6k a' ha'
          simp only [Bool.and_eq_true, decide_eq_true_eq]; omega
        have e2 : S.countP (fun a => true && decide (a < ((s2 + 1 : Nat) : Int))) = an_B l := by
          rw [← eB.1, ← List.countP_true]
          refine an_cc (fun a' ha' => ?_)
          have := q6k a' ha'
          simp only [Bool.and_eq_true, decide_eq_true_eq, true_and, iff_true]; omega
        rw [e1] at c1
        rw [e2] at c2
        have tB : (lN (an_B l)).toInt = an_B l := pk_lT (by omega)
        have tA : (lN (an_A l)).toInt = an_A l := pk_lT (by omega)
        refine rs_M_tellsWays (s := s2) hT' (by omega) (by rw [br_u_n (by omega), br_u_n (by omega)]; exact q3) ?_ ?_ ?_
        · show -9223372036854775808 < (bt_hi (fun x => an_Wk [0] (an_ws 0 l) k k x) (nI (an_x (fun v => v) true l).toNat) (s2 + 1)).toInt
          rw [c1, tA]; omega
        · show 0 ≤ (bt_all (fun x => an_Wk [0] (an_ws 0 l) k k x) (s2 + 1)).toInt
          rw [c2, tB]; omega
        · show br_r (d + 3) 272 102 _ _ (br_hp n _ (br_u (br_u L' 169 19 (bf_u (bt_hi (fun x => an_Wk [0] (an_ws 0 l) k k x) (nI (an_x (fun v => v) true l).toNat) (s2 + 1)) (bt_all (fun x => an_Wk [0] (an_ws 0 l) k k x) (s2 + 1)))) 169 20 (bf_l (bt_hi (fun x => an_Wk [0] (an_ws 0 l) k k x) (nI (an_x (fun v => v) true l).toNat) (s2 + 1)) (bt_all (fun x => an_Wk [0] (an_ws 0 l) k k x) (s2 + 1))))) Q
          rw [c1, c2]
          refine rb_M_tellsBlind_102 ?_
          have eb : decide (0 < (bt_all ((fun (k' : Nat) (x : Nat) => if k' = 0 then an_Wk [0] (an_ws 0 l) k k x else lN 0) 0) (s2 + 1)).toInt) = true := by
            refine decide_eq_true ?_
            show 0 < (bt_all (fun x => an_Wk [0] (an_ws 0 l) k k x) (s2 + 1)).toInt
            rw [c2, tB]; omega
          rw [eb]
          have wy : br_wy (br_u (br_u J2 169 24 (nI 0)) 169 25 (nI 0)) (br_u (br_u L' 169 19 (bf_u (lN (an_A l)) (lN (an_B l)))) 169 20 (bf_l (lN (an_A l)) (lN (an_B l)))) := by
            refine ⟨0, s2, by omega, by omega, by rw [br_u_s], by rw [br_u_n (by omega), br_u_n (by omega)]; exact q3, fun k' x h3 h4 h5 => ?_⟩
            rw [br_u_n (by omega), br_u_n (by omega)]
            refine (hT' k' x h3 h4).trans ?_
            show (if _ then _ else _) = _
            by_cases h6 : k' = 0
            · have hx2 : s2 < x := by omega
              show (if k' = 0 then an_Wk [0] (an_ws 0 l) k k x else lN 0) = lN 0
              rw [if_pos h6]
              unfold an_Wk
              rw [if_pos (Nat.le_refl k), hS, an_c0 (fun a' ha' => ?_)]
              have := q6k a' ha'
              simp only [decide_eq_true_eq]; omega
            · exact if_neg h6
          have h9 := H _ (br_u (br_u L' 169 19 (bf_u (lN (an_A l)) (lN (an_B l)))) 169 20 (bf_l (lN (an_A l)) (lN (an_B l)))) fJ (fun q j h1 h2 => by rw [br_u_n (by omega), br_u_n (by omega), hL' q j h1]; exact hL q j h1) (fun j h1 h2 => by rw [br_u_n (by omega), br_u_n (by omega), hL' 169 j (by omega)]; exact hL 169 j (by omega)) wy (by rw [br_u_n (by omega), br_u_s, an_u_T hsp]) (by rw [br_u_s, an_l_T hsp])
          rw [br_b_T hsp] at h9
          exact h9
    | succ m ih =>
      intro cc J2 L2 s2 hcc hJ hL q1 q2 q3 q4 q5 q6
      have j171 : J2 171 = g := by rw [← hg]; funext j; exact hJ 171 j (by omega)
      have nx := fun J2 L2 s2 => ih (cc + 1) J2 L2 s2 (by omega)
      have lc := bs_l_len (P := bw_P g y) (E := bw_E g) cc
      refine rb_M_tellsBlind_38 (br_f (by rw [j171, eF]; exact nI_ge (by omega) (by omega)) ?_)
      rw [nI_add, nI_add, nI_clamp (by omega), nI_clamp (by omega), j171]
      refine ⟨vp_in_nI (by omega) (by omega), fun h => rb_M_tellsBlind_79 ?_, fun h => ⟨vp_in_nI (by omega) (by omega), ?_⟩⟩
      · have e : bs_l (bw_P g y) (bw_E g) (cc + 1) = bs_l (bw_P g y) (bw_E g) cc := bs_l_F (decide_eq_false h)
        rw [e] at nx
        rw [nI_add]
        exact nx J2 L2 s2 hJ hL q1 q2 q3 q4 q5 q6
      · have hp : bw_P g y cc = true := decide_eq_true (Classical.not_not.mp h)
        have hb := bb_fseen hW (j := cc) (by omega)
        rw [Nat.zero_add] at hb
        obtain ⟨v, e1, e2⟩ := br_nN (x := g (1163 + cc)) (by omega)
        have e : bs_l (bw_P g y) (bw_E g) (cc + 1) = bs_l (bw_P g y) (bw_E g) cc ++ [bw_E g cc] := bs_l_T hp
        rw [e] at nx
        have lw : (an_ws 0 (bs_l (bw_P g y) (bw_E g) cc)).length = (bs_l (bw_P g y) (bw_E g) cc).length := an_ws_len
        have ew : an_ws 0 (bs_l (bw_P g y) (bw_E g) cc ++ [bw_E g cc]) = (v : Int) :: an_ws 0 (bs_l (bw_P g y) (bw_E g) cc) := by
          rw [an_ws_s]
          show ((g (1163 + cc)).toInt - 0) :: _ = _
          congr 1; omega
        have el : (bs_l (bw_P g y) (bw_E g) cc ++ [bw_E g cc]).length = (bs_l (bw_P g y) (bw_E g) cc).length + 1 := by rw [List.length_append]; rfl
        rw [e1]
        refine rs_M_adds (v := v) (j := k) (t := min k (bs_l (bw_P g y) (bw_E g) cc).length) (s := s2) (c := (bs_l (bw_P g y) (bw_E g) cc).length) q5 (by omega) (by omega) (by omega) (by omega) q1 q2 q3 (fun L' hL' hT' => rb_M_tellsBlind_79 ?_)
        rw [nI_add]
        refine nx _ L' (s2 + v) (fun p j hp => ?_) (fun q j hq => by rw [hL' q j hq]; exact hL q j hq) ?_ ?_ ?_ ?_ (fun k' x h6 h7 => ?_) (fun k' a' ha' => ?_)
        · rw [br_u_n (by omega), br_u_n (by omega), br_u_n (by omega)]; exact hJ p j hp
        · rw [br_u_s, el]
        · rw [br_u_n (by omega), br_u_n (by omega), br_u_s, el]; congr 1; omega
        · rw [br_u_n (by omega), br_u_s]
        · rw [el]; omega
        · refine (hT' k' x h6 h7).trans ?_
          rw [ew, ← lw]
          exact an_W_add q6 k' x
        · rw [ew] at ha'
          cases k' with
          | zero =>
            rw [an_si0] at ha'
            have := q6 0 a' (by rw [an_si0]; exact ha')
            omega
          | succ k' =>
            rw [an_st] at ha'
            rcases List.mem_append.mp ha' with h8 | h8
            · have := q6 (k' + 1) a' h8; omega
            · obtain ⟨y, hy, e9⟩ := List.mem_map.mp h8
              have := q6 k' y hy; omega
  refine loop F 0 _ L1 0 (by omega) (fun p j hp => by rw [br_u_n (by omega), br_u_n (by omega), br_u_n (by omega)]) hL1 ?_ ?_ ?_ (Nat.zero_le _) (fun k' x h6 h7 => ?_) (fun k' a' ha' => ?_)
  · rw [br_u_n (by omega), br_u_n (by omega), br_u_s]; rfl
  · rw [br_u_n (by omega), br_u_s]
    show nI 0 = nI (min k 0)
    rw [Nat.min_zero]
  · rw [br_u_s]
  · refine (hT1 k' x h6 h7).trans ?_
    show (if k' = 0 ∧ x = 0 then lN 1 else lN 0) = an_Wk [0] [] k k' x
    rw [an_W_0]
    by_cases h3 : k' = 0
    · rw [if_pos h3]
      by_cases h4 : x = 0
      · rw [if_pos ⟨h3, h4⟩]; subst h4; rfl
      · rw [if_neg (fun z => h4 z.2), an_c0 (fun a' ha' => ?_)]
        have : a' = 0 := List.mem_singleton.mp ha'
        simp only [decide_eq_true_eq]; omega
    · rw [if_neg h3, if_neg (fun z => h3 z.1)]
  · cases k' with
    | zero =>
      have ha2 : a' ∈ an_o [0] (br_si ([] : List Int) 0) := ha'
      rw [an_si0] at ha2
      have : a' = 0 := List.mem_singleton.mp ha2
      omega
    | succ k' => cases ha'
end
section
variable {n : Nat} {xs : Nat → Int32} {I : Nat → Nat → Int32} {L : Nat → Nat → Int64}
theorem bp_hair_1 (hI : br_Inv xs I L) (x1 : Int32) : br_pair n xs 150 269 [some (.ref 8), some (.int x1), some (.int (nI 1))] [some (.ref 169), some (.int x1), some (.int (nI 1))] I L := by
  by_cases h1 : 0 ≤ x1.toInt ∧ x1.toInt ≤ 2
  · obtain ⟨F, hF, eF⟩ := br_films hI
    obtain ⟨y, ey, hy⟩ := br_nN h1.1
    subst ey
    have t1 : (nI 0).toInt ≤ (nI y).toInt ∧ (nI y).toInt ≤ (nI 2).toInt := by
      rw [nI_toInt (show 0 < 2 ^ 31 by omega), nI_toInt (show 2 < 2 ^ 31 by omega)]; exact h1
    have t2 : (lN 0).toInt ≤ (nI y).toInt64.toInt ∧ (nI y).toInt64.toInt ≤ (lN 2).toInt := by
      rw [pk_lT (by omega), pk_lT (by omega), Int32.toInt_toInt64]; exact h1
    intro d Q K
    generalize hs : bs_l (bw_P (I 171) y) (bw_E (I 171)) F = s
    have ln : s.length ≤ 40 := by rw [← hs]; have := bs_l_len (P := bw_P (I 171) y) (E := bw_E (I 171)) F; omega
    have r0 : ∀ e, e ∈ s → e.1 = 0 := by rw [← hs]; exact bw_room
    have b2 : br_b2 s := fun e he => by
      have := bw_v hI.1.1 (y := y) hF e (by rw [hs]; exact he)
      omega
    refine rb_A_hair_0 (rs_out_F t1 (rb_A_hair_6 (br_f (fun z => z rfl) (rs_out_F (by decide +kernel) (rb_A_hair_15 (br_t rfl (rs_gatherF (F := F) hI.1.1 hF eF (fun J1 hJ1 hq1 => rb_A_hair_39 (br_t br_10 ?_)))))))))
    rw [hs] at hq1
    refine rs_S_anew (p := 72) hq1 b2 (fun e he => by rw [r0 e he]; omega) rfl (by omega) (fun J2 L2 hJ2 hL2 e0 e1 => rb_A_hair_72 (rs_isNone rfl (rb_A_hair_79 ?_)))
    rw [e1]
    have fr : ∀ p j, ¬ (64 ≤ p ∧ p ≤ 71) → J2 p j = I p j := fun p j hp => by rw [hJ2 p j (by omega), hJ1 p (by omega)]
    have j171 : br_u J2 169 0 (nI 0) 171 = I 171 := by rw [br_u_q (by omega)]; funext j; exact fr 171 j (by omega)
    have wy : br_wy (br_u J2 169 0 (nI 0)) L2 := br_wy_c hI.2.2.2.2 (by rw [br_u_n (by omega)]; exact fr 169 25 (by omega)) (by rw [br_u_n (by omega)]; exact fr 169 26 (by omega)) (fun j => hL2 177 j (by omega) (by omega))
    have fin : Q (some (.int (br_b (an_sp s)))) (br_hp n J2 L2) := by
      refine K _ J2 L2 (fun j => fr 1 j (by omega)) (fun d' Q' k' => rb_M_hair_0 (rs_wi_T t2 (rb_M_hair_14 (br_f br_10 (rs_wi_T (by decide +kernel) (rb_M_hair_24 (br_t br_10 (br_t br_10 ?_))))))))
      refine rs_M_blind (l := s) j171 hI.1.1 hF eF (by omega) hs.symm wy (fun J4 L4 hJ4 hL4 hL4b wy4 f0 f1 => rb_M_hair_51 (k' J4 L4 (br_Inv_a hI (fun p j hp => ?_) (fun p j q1 q2 q3 => ?_) ?_ ?_ ?_ wy4)))
      · unfold br_scA at hp
        rw [hJ4 p j (by omega), br_u_n (by omega), fr p j (by omega)]
      · rw [hL4 p j q3 q2, hL2 p j (by omega) (by omega)]
      · rw [hL4 72 0 (by omega) (by omega), e0, f0]
      · rw [hL4 72 1 (by omega) (by omega), e1, f1]
      · rw [hL4 72 1 (by omega) (by omega), e1]; exact an_nn
    rw [bn_0, an_told ln]
    refine ⟨fun h => ?_, fun h => ?_⟩
    · rw [br_b_T h] at fin; exact fin
    · rw [br_b_F h] at fin; exact fin
  · refine br_pair_no hI (k := 2) (by omega) (v := -(nI 2)) (fun d Q H => ?_) (fun d Q H => ?_)
    · repeat (first
        | exact H
        | (refine br_t ?_ ?_; (focus ((first | rfl | assumption | exact fun z => z rfl | omega | (simp (disch := omega) only [not_true_eq_false, not_false_eq_true, br_u_s, br_u_n, br_u_q, nI_eq, nI_clamp, nI_add, pk_mul, br_R17, br_S17, pk_sub_toInt, br_ltT, br_leT, br_inT, br_nT, br_negT, br_b_0, br_b_1, Int32.toInt_toInt64, pk_lT, br_lnegT] <;> omega)); done)))
        | (refine br_f ?_ ?_; (focus ((first | rfl | assumption | exact fun z => z rfl | omega | (simp (disch := omega) only [not_true_eq_false, not_false_eq_true, br_u_s, br_u_n, br_u_q, nI_eq, nI_clamp, nI_add, pk_mul, br_R17, br_S17, pk_sub_toInt, br_ltT, br_leT, br_inT, br_nT, br_negT, br_b_0, br_b_1, Int32.toInt_toInt64, pk_lT, br_lnegT] <;> omega)); done)))
        | refine rb_A_hair_0 ?_
        | refine rb_A_hair_6 ?_
        | refine rb_A_hair_15 ?_
        | refine rb_A_hair_23 ?_
        | (refine rs_out_F ?_ ?_; (focus ((first | rfl | assumption | exact fun z => z rfl | omega | (simp (disch := omega) only [not_true_eq_false, not_false_eq_true, br_u_s, br_u_n, br_u_q, nI_eq, nI_clamp, nI_add, pk_mul, br_R17, br_S17, pk_sub_toInt, br_ltT, br_leT, br_inT, br_nT, br_negT, br_b_0, br_b_1, Int32.toInt_toInt64, pk_lT, br_lnegT] <;> omega)); done)))
        | (refine rs_out_T ?_ ?_; (focus ((first | rfl | assumption | exact fun z => z rfl | omega | (simp (disch := omega) only [not_true_eq_false, not_false_eq_true, br_u_s, br_u_n, br_u_q, nI_eq, nI_clamp, nI_add, pk_mul, br_R17, br_S17, pk_sub_toInt, br_ltT, br_leT, br_inT, br_nT, br_negT, br_b_0, br_b_1, Int32.toInt_toInt64, pk_lT, br_lnegT] <;> omega)); done)))
        | (refine rs_noChild_F (N := N) ?_ ?_ ?_ ?_; (focus ((first | rfl | assumption | exact fun z => z rfl | omega | (simp (disch := omega) only [not_true_eq_false, not_false_eq_true, br_u_s, br_u_n, br_u_q, nI_eq, nI_clamp, nI_add, pk_mul, br_R17, br_S17, pk_sub_toInt, br_ltT, br_leT, br_inT, br_nT, br_negT, br_b_0, br_b_1, Int32.toInt_toInt64, pk_lT, br_lnegT] <;> omega)); done)); (focus ((first | rfl | assumption | exact fun z => z rfl | omega | (simp (disch := omega) only [not_true_eq_false, not_false_eq_true, br_u_s, br_u_n, br_u_q, nI_eq, nI_clamp, nI_add, pk_mul, br_R17, br_S17, pk_sub_toInt, br_ltT, br_leT, br_inT, br_nT, br_negT, br_b_0, br_b_1, Int32.toInt_toInt64, pk_lT, br_lnegT] <;> omega)); done)); (focus ((first | rfl | assumption | exact fun z => z rfl | omega | (simp (disch := omega) only [not_true_eq_false, not_false_eq_true, br_u_s, br_u_n, br_u_q, nI_eq, nI_clamp, nI_add, pk_mul, br_R17, br_S17, pk_sub_toInt, br_ltT, br_leT, br_inT, br_nT, br_negT, br_b_0, br_b_1, Int32.toInt_toInt64, pk_lT, br_lnegT] <;> omega)); done)))
        | (refine rs_noChild_T (N := N) ?_ ?_ ?_ ?_; (focus ((first | rfl | assumption | exact fun z => z rfl | omega | (simp (disch := omega) only [not_true_eq_false, not_false_eq_true, br_u_s, br_u_n, br_u_q, nI_eq, nI_clamp, nI_add, pk_mul, br_R17, br_S17, pk_sub_toInt, br_ltT, br_leT, br_inT, br_nT, br_negT, br_b_0, br_b_1, Int32.toInt_toInt64, pk_lT, br_lnegT] <;> omega)); done)); (focus ((first | rfl | assumption | exact fun z => z rfl | omega | (simp (disch := omega) only [not_true_eq_false, not_false_eq_true, br_u_s, br_u_n, br_u_q, nI_eq, nI_clamp, nI_add, pk_mul, br_R17, br_S17, pk_sub_toInt, br_ltT, br_leT, br_inT, br_nT, br_negT, br_b_0, br_b_1, Int32.toInt_toInt64, pk_lT, br_lnegT] <;> omega)); done)); (focus ((first | rfl | assumption | exact fun z => z rfl | omega | (simp (disch := omega) only [not_true_eq_false, not_false_eq_true, br_u_s, br_u_n, br_u_q, nI_eq, nI_clamp, nI_add, pk_mul, br_R17, br_S17, pk_sub_toInt, br_ltT, br_leT, br_inT, br_nT, br_negT, br_b_0, br_b_1, Int32.toInt_toInt64, pk_lT, br_lnegT] <;> omega)); done)))
        | (refine rs_noTest_F ?_ ?_; (focus ((first | rfl | assumption | exact fun z => z rfl | omega | (simp (disch := omega) only [not_true_eq_false, not_false_eq_true, br_u_s, br_u_n, br_u_q, nI_eq, nI_clamp, nI_add, pk_mul, br_R17, br_S17, pk_sub_toInt, br_ltT, br_leT, br_inT, br_nT, br_negT, br_b_0, br_b_1, Int32.toInt_toInt64, pk_lT, br_lnegT] <;> omega)); done)))
        | (refine rs_noTest_T ?_ ?_; (focus ((first | rfl | assumption | exact fun z => z rfl | omega | (simp (disch := omega) only [not_true_eq_false, not_false_eq_true, br_u_s, br_u_n, br_u_q, nI_eq, nI_clamp, nI_add, pk_mul, br_R17, br_S17, pk_sub_toInt, br_ltT, br_leT, br_inT, br_nT, br_negT, br_b_0, br_b_1, Int32.toInt_toInt64, pk_lT, br_lnegT] <;> omega)); done)))
        | (refine rs_refuse ?_ ?_; (focus ((first | rfl | assumption | exact fun z => z rfl | omega | (simp (disch := omega) only [not_true_eq_false, not_false_eq_true, br_u_s, br_u_n, br_u_q, nI_eq, nI_clamp, nI_add, pk_mul, br_R17, br_S17, pk_sub_toInt, br_ltT, br_leT, br_inT, br_nT, br_negT, br_b_0, br_b_1, Int32.toInt_toInt64, pk_lT, br_lnegT] <;> omega)); done)))
        | (refine And.intro ?_ ?_; (focus ((first | rfl | assumption | exact fun z => z rfl | omega | (simp (disch := omega) only [not_true_eq_false, not_false_eq_true, br_u_s, br_u_n, br_u_q, nI_eq, nI_clamp, nI_add, pk_mul, br_R17, br_S17, pk_sub_toInt, br_ltT, br_leT, br_inT, br_nT, br_negT, br_b_0, br_b_1, Int32.toInt_toInt64, pk_lT, br_lnegT] <;> omega)); done))))
    · repeat (first
        | exact H
        | (refine br_t ?_ ?_; (focus ((first | rfl | assumption | exact fun z => z rfl | omega | (simp (disch := omega) only [not_true_eq_false, not_false_eq_true, br_u_s, br_u_n, br_u_q, nI_eq, nI_clamp, nI_add, pk_mul, br_R17, br_S17, pk_sub_toInt, br_ltT, br_leT, br_inT, br_nT, br_negT, br_b_0, br_b_1, Int32.toInt_toInt64, pk_lT, br_lnegT] <;> omega)); done)))
        | (refine br_f ?_ ?_; (focus ((first | rfl | assumption | exact fun z => z rfl | omega | (simp (disch := omega) only [not_true_eq_false, not_false_eq_true, br_u_s, br_u_n, br_u_q, nI_eq, nI_clamp, nI_add, pk_mul, br_R17, br_S17, pk_sub_toInt, br_ltT, br_leT, br_inT, br_nT, br_negT, br_b_0, br_b_1, Int32.toInt_toInt64, pk_lT, br_lnegT] <;> omega)); done)))
        | refine rb_M_hair_0 ?_
        | refine rb_M_hair_14 ?_
        | refine rb_M_hair_24 ?_
        | refine rb_M_hair_33 ?_
        | (refine rs_wi_T ?_ ?_; (focus ((first | rfl | assumption | exact fun z => z rfl | omega | (simp (disch := omega) only [not_true_eq_false, not_false_eq_true, br_u_s, br_u_n, br_u_q, nI_eq, nI_clamp, nI_add, pk_mul, br_R17, br_S17, pk_sub_toInt, br_ltT, br_leT, br_inT, br_nT, br_negT, br_b_0, br_b_1, Int32.toInt_toInt64, pk_lT, br_lnegT] <;> omega)); done)))
        | (refine rs_wi_F ?_ ?_; (focus ((first | rfl | assumption | exact fun z => z rfl | omega | (simp (disch := omega) only [not_true_eq_false, not_false_eq_true, br_u_s, br_u_n, br_u_q, nI_eq, nI_clamp, nI_add, pk_mul, br_R17, br_S17, pk_sub_toInt, br_ltT, br_leT, br_inT, br_nT, br_negT, br_b_0, br_b_1, Int32.toInt_toInt64, pk_lT, br_lnegT] <;> omega)); done)))
        | (refine rs_isChild_T (N := N) ?_ ?_ ?_ ?_; (focus ((first | rfl | assumption | exact fun z => z rfl | omega | (simp (disch := omega) only [not_true_eq_false, not_false_eq_true, br_u_s, br_u_n, br_u_q, nI_eq, nI_clamp, nI_add, pk_mul, br_R17, br_S17, pk_sub_toInt, br_ltT, br_leT, br_inT, br_nT, br_negT, br_b_0, br_b_1, Int32.toInt_toInt64, pk_lT, br_lnegT] <;> omega)); done)); (focus ((first | rfl | assumption | exact fun z => z rfl | omega | (simp (disch := omega) only [not_true_eq_false, not_false_eq_true, br_u_s, br_u_n, br_u_q, nI_eq, nI_clamp, nI_add, pk_mul, br_R17, br_S17, pk_sub_toInt, br_ltT, br_leT, br_inT, br_nT, br_negT, br_b_0, br_b_1, Int32.toInt_toInt64, pk_lT, br_lnegT] <;> omega)); done)); (focus ((first | rfl | assumption | exact fun z => z rfl | omega | (simp (disch := omega) only [not_true_eq_false, not_false_eq_true, br_u_s, br_u_n, br_u_q, nI_eq, nI_clamp, nI_add, pk_mul, br_R17, br_S17, pk_sub_toInt, br_ltT, br_leT, br_inT, br_nT, br_negT, br_b_0, br_b_1, Int32.toInt_toInt64, pk_lT, br_lnegT] <;> omega)); done)))
        | (refine rs_isChild_F (N := N) ?_ ?_ ?_ ?_; (focus ((first | rfl | assumption | exact fun z => z rfl | omega | (simp (disch := omega) only [not_true_eq_false, not_false_eq_true, br_u_s, br_u_n, br_u_q, nI_eq, nI_clamp, nI_add, pk_mul, br_R17, br_S17, pk_sub_toInt, br_ltT, br_leT, br_inT, br_nT, br_negT, br_b_0, br_b_1, Int32.toInt_toInt64, pk_lT, br_lnegT] <;> omega)); done)); (focus ((first | rfl | assumption | exact fun z => z rfl | omega | (simp (disch := omega) only [not_true_eq_false, not_false_eq_true, br_u_s, br_u_n, br_u_q, nI_eq, nI_clamp, nI_add, pk_mul, br_R17, br_S17, pk_sub_toInt, br_ltT, br_leT, br_inT, br_nT, br_negT, br_b_0, br_b_1, Int32.toInt_toInt64, pk_lT, br_lnegT] <;> omega)); done)); (focus ((first | rfl | assumption | exact fun z => z rfl | omega | (simp (disch := omega) only [not_true_eq_false, not_false_eq_true, br_u_s, br_u_n, br_u_q, nI_eq, nI_clamp, nI_add, pk_mul, br_R17, br_S17, pk_sub_toInt, br_ltT, br_leT, br_inT, br_nT, br_negT, br_b_0, br_b_1, Int32.toInt_toInt64, pk_lT, br_lnegT] <;> omega)); done)))
        | (refine rs_isTest_T ?_ ?_; (focus ((first | rfl | assumption | exact fun z => z rfl | omega | (simp (disch := omega) only [not_true_eq_false, not_false_eq_true, br_u_s, br_u_n, br_u_q, nI_eq, nI_clamp, nI_add, pk_mul, br_R17, br_S17, pk_sub_toInt, br_ltT, br_leT, br_inT, br_nT, br_negT, br_b_0, br_b_1, Int32.toInt_toInt64, pk_lT, br_lnegT] <;> omega)); done)))
        | (refine rs_isTest_F ?_ ?_; (focus ((first | rfl | assumption | exact fun z => z rfl | omega | (simp (disch := omega) only [not_true_eq_false, not_false_eq_true, br_u_s, br_u_n, br_u_q, nI_eq, nI_clamp, nI_add, pk_mul, br_R17, br_S17, pk_sub_toInt, br_ltT, br_leT, br_inT, br_nT, br_negT, br_b_0, br_b_1, Int32.toInt_toInt64, pk_lT, br_lnegT] <;> omega)); done)))
        | (refine rs_no ?_ ?_; (focus ((first | rfl | assumption | exact fun z => z rfl | omega | (simp (disch := omega) only [not_true_eq_false, not_false_eq_true, br_u_s, br_u_n, br_u_q, nI_eq, nI_clamp, nI_add, pk_mul, br_R17, br_S17, pk_sub_toInt, br_ltT, br_leT, br_inT, br_nT, br_negT, br_b_0, br_b_1, Int32.toInt_toInt64, pk_lT, br_lnegT] <;> omega)); done)))
        | (refine rs_pointOf ?_ ?_ ?_; (focus ((first | rfl | assumption | exact fun z => z rfl | omega | (simp (disch := omega) only [not_true_eq_false, not_false_eq_true, br_u_s, br_u_n, br_u_q, nI_eq, nI_clamp, nI_add, pk_mul, br_R17, br_S17, pk_sub_toInt, br_ltT, br_leT, br_inT, br_nT, br_negT, br_b_0, br_b_1, Int32.toInt_toInt64, pk_lT, br_lnegT] <;> omega)); done)); (focus ((first | rfl | assumption | exact fun z => z rfl | omega | (simp (disch := omega) only [not_true_eq_false, not_false_eq_true, br_u_s, br_u_n, br_u_q, nI_eq, nI_clamp, nI_add, pk_mul, br_R17, br_S17, pk_sub_toInt, br_ltT, br_leT, br_inT, br_nT, br_negT, br_b_0, br_b_1, Int32.toInt_toInt64, pk_lT, br_lnegT] <;> omega)); done)))
        | (refine And.intro ?_ ?_; (focus ((first | rfl | assumption | exact fun z => z rfl | omega | (simp (disch := omega) only [not_true_eq_false, not_false_eq_true, br_u_s, br_u_n, br_u_q, nI_eq, nI_clamp, nI_add, pk_mul, br_R17, br_S17, pk_sub_toInt, br_ltT, br_leT, br_inT, br_nT, br_negT, br_b_0, br_b_1, Int32.toInt_toInt64, pk_lT, br_lnegT] <;> omega)); done))))
theorem bp_hair (hI : br_Inv xs I L) (x1 : Int32) (x2 : Int32)  : br_pair n xs 150 269 [some (.ref 8), some (.int x1), some (.int x2)] [some (.ref 169), some (.int x1), some (.int x2)] I L := by
  by_cases n1 : x2 = nI 1
  · subst n1; exact bp_hair_1 hI x1
  · exact bp_hair_0 hI x1 x2 n1
end
