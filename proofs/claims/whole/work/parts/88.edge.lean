set_option maxRecDepth 100000
set_option maxHeartbeats 4000000
/-! the outermost of the slopes -/
theorem bf_idem {u l : Int64} (hl : 0 < l.toInt) (hu : -9223372036854775808 < u.toInt) : bf_u (bf_u u l) (bf_l u l) = bf_u u l ∧ bf_l (bf_u u l) (bf_l u l) = bf_l u l := by
  have lp := bf_l_pos (u := u) hl
  have gp := bf_g_pos (u := u) hl
  have gl := bf_g_lt (u := u) hl
  have e1 : (bf_u u l).toInt.natAbs = u.toInt.natAbs / bf_g u l := by
    rw [bf_uT hl, br_ldivT hu, pk_lT gl, Int.natAbs_tdiv]; rfl
  have e2 : (bf_l u l).toInt.toNat = l.toInt.toNat / bf_g u l := by
    rw [bf_lT hl, br_ldivT (by omega), pk_lT gl]
    have e3 : l.toInt = (l.toInt.toNat : Int) := by omega
    rw [e3]; rfl
  have g1 : bf_g (bf_u u l) (bf_l u l) = 1 := by
    show Nat.gcd _ _ = 1
    rw [e1, e2]
    exact Nat.gcd_div_gcd_div_gcd_of_pos_right (by omega)
  have d1 : ∀ x : Int64, x / lN 1 = x := fun x => Int64.div_one
  rw [bf_uT (u := bf_u u l) lp.1, bf_lT (u := bf_u u l) lp.1, g1, d1, d1]
  exact ⟨rfl, rfl⟩
def be_new (g : Nat → Int32) (pr : Int32) (T i : Nat) : Int64 × Int64 := (bf_u (bc_u g pr (nI i) T) (bc_l g pr (nI i) T), bf_l (bc_u g pr (nI i) T) (bc_l g pr (nI i) T))
def be_X (q r : Int64 × Int64) : Int := r.1.toInt * q.2.toInt - q.1.toInt * r.2.toInt
def be_tk (gr : Int32) (q r : Int64 × Int64) : Bool := !decide (0 < q.2.toInt) || (if gr = nI 0 then decide (be_X q r < 0) else decide (0 < be_X q r))
def be_pr (g : Nat → Int32) (pr : Int32) (i : Nat) : Bool := decide (pr = nI 0) || !decide (g (1369 + i) = nI 0)
def be_in (g : Nat → Int32) (pr : Int32) (T i : Nat) : Bool := be_pr g pr i && decide (0 < (bc_l g pr (nI i) T).toInt)
def be_st (g : Nat → Int32) (pr gr : Int32) (T : Nat) : Nat → Int64 × Int64
  | 0 => (lN 0, lN 0)
  | i + 1 => if (be_in g pr T i && be_tk gr (be_st g pr gr T i) (be_new g pr T i)) = true then be_new g pr T i else be_st g pr gr T i
theorem be_st_T {g : Nat → Int32} {pr gr : Int32} {T i : Nat} (h : be_in g pr T i = true) (h2 : be_tk gr (be_st g pr gr T i) (be_new g pr T i) = true) : be_st g pr gr T (i + 1) = be_new g pr T i := if_pos (by rw [h, h2]; rfl)
theorem be_st_F {g : Nat → Int32} {pr gr : Int32} {T i : Nat} (h : be_in g pr T i = false ∨ be_tk gr (be_st g pr gr T i) (be_new g pr T i) = false) : be_st g pr gr T (i + 1) = be_st g pr gr T i := if_neg (by
  rcases h with h | h
  · rw [h]; exact Bool.false_ne_true
  · rw [h, Bool.and_false]; exact Bool.false_ne_true)
def be_ok (q : Int64 × Int64) : Prop := q = (lN 0, lN 0) ∨ ∃ u l : Int64, 0 < l.toInt ∧ u.toInt.natAbs ≤ 4000000000000000 ∧ l.toInt ≤ 4000000000000000 ∧ q = (bf_u u l, bf_l u l)
theorem be_new_ok {f : Nat → Nat → Int32} {g : Nat → Int32} (hW : br_cel 9 0 f g) {pr : Int32} {T i : Nat} (hT : T ≤ 20) (h : 0 < (bc_l g pr (nI i) T).toInt) : be_ok (be_new g pr T i) := by
  obtain ⟨h1, h2, h3⟩ := bc_ul hW (pr := pr) (ex := nI i) hT
  exact Or.inr ⟨_, _, h, h1, h3, rfl⟩
theorem be_st_ok {f : Nat → Nat → Int32} {g : Nat → Int32} (hW : br_cel 9 0 f g) {pr gr : Int32} {T : Nat} (hT : T ≤ 20) : ∀ i, be_ok (be_st g pr gr T i)
  | 0 => Or.inl rfl
  | i + 1 => by
    have ih := be_st_ok hW (pr := pr) (gr := gr) hT i
    by_cases h : (be_in g pr T i && be_tk gr (be_st g pr gr T i) (be_new g pr T i)) = true
    · have e : be_st g pr gr T (i + 1) = be_new g pr T i := if_pos h
      rw [e]
      rw [Bool.and_eq_true] at h
      have h2 := h.1
      unfold be_in at h2
      rw [Bool.and_eq_true] at h2
      exact be_new_ok hW hT (of_decide_eq_true h2.2)
    · have e : be_st g pr gr T (i + 1) = be_st g pr gr T i := if_neg h
      rw [e]; exact ih
theorem be_ok_b {q : Int64 × Int64} (h : be_ok q) : q.1.toInt.natAbs < 4611686018427387904 ∧ 0 ≤ q.2.toInt ∧ q.2.toInt < 4611686018427387904 := by
  have z0 : (lN 0).toInt = 0 := pk_lT (by omega)
  rcases h with rfl | ⟨u, l, h1, h2, h3, rfl⟩
  · simp only [z0]; omega
  · have a := bf_u_abs (u := u) (l := l) (by omega)
    have b := bf_l_pos (u := u) h1
    simp only; omega
theorem be_ok_i {q : Int64 × Int64} (h : be_ok q) : bf_u q.1 q.2 = q.1 ∧ bf_l q.1 q.2 = q.2 := by
  have z0 : (lN 0).toInt = 0 := pk_lT (by omega)
  rcases h with rfl | ⟨u, l, h1, h2, h3, rfl⟩
  · exact ⟨bf_uF (by rw [z0]; omega), bf_lF (by rw [z0]; omega)⟩
  · exact bf_idem h1 (by omega)
theorem bn_0 {x : Int64} : nI (decide (¬ 0 < x.toInt)).toNat = nI 0 ↔ 0 < x.toInt := by
  by_cases h : 0 < x.toInt
  · rw [decide_eq_false (fun z => z h)]; exact ⟨fun _ => h, fun _ => rfl⟩
  · rw [decide_eq_true h]; exact ⟨fun z => absurd z br_10, fun z => absurd z h⟩
theorem bs_sg_lt {x : Int} : nI 0 ≤ bs_sg x ↔ ¬ x < 0 := by
  unfold bs_sg
  by_cases h : x < 0
  · rw [if_pos h]; exact ⟨fun z => absurd z (by decide +kernel), fun z => absurd h z⟩
  · rw [if_neg h]
    by_cases h2 : 0 < x
    · rw [if_pos h2]; exact ⟨fun _ => h, fun _ => by decide +kernel⟩
    · rw [if_neg h2]; exact ⟨fun _ => h, fun _ => by decide +kernel⟩
theorem bs_sg_gt {x : Int} : bs_sg x ≤ nI 0 ↔ ¬ 0 < x := by
  unfold bs_sg
  by_cases h : x < 0
  · rw [if_pos h]; exact ⟨fun _ => by omega, fun _ => by decide +kernel⟩
  · rw [if_neg h]
    by_cases h2 : 0 < x
    · rw [if_pos h2]; exact ⟨fun z => absurd z (by decide +kernel), fun z => absurd h2 z⟩
    · rw [if_neg h2]; exact ⟨fun _ => h2, fun _ => by decide +kernel⟩
section
variable {d n : Nat} {Q : br_Q} {I J : Nat → Nat → Int32} {L : Nat → Nat → Int64} {g : Nat → Int32}
theorem rs_W_edge {T : Nat} {pr gr : Int32} {z5 z6 : Option Value} (hW : br_cel 9 0 I (I 171)) (hT : T ≤ 20) (eT : I 171 1308 = nI T)
    (H : ∀ L' : Nat → Nat → Int64, (∀ p j, p ≠ 72 → p ≠ 73 → L' p j = L p j) → L' 72 0 = (be_st (I 171) pr gr T T).1 → L' 72 1 = (be_st (I 171) pr gr T T).2 → Q none (br_hp n I L')) :
    br_r (d + 3) 166 0 [some (.ref 39), some (.ref 72), some (.ref 73), some (.int pr), some (.int gr), z5, z6] [] (br_hp n I L) Q := by
  have cT : I 39 4 = nI T := (bi_ntrials hW).trans eT
  have loop : ∀ k i (L' : Nat → Nat → Int64) (z6 : Option Value), i + k = T → (∀ p j, p ≠ 72 → p ≠ 73 → L' p j = L p j) → L' 72 0 = (be_st (I 171) pr gr T i).1 → L' 72 1 = (be_st (I 171) pr gr T i).2 →
      br_r (d + 3) 166 7 [some (.ref 39), some (.ref 72), some (.ref 73), some (.int pr), some (.int gr), some (.int (nI i)), z6] [] (br_hp n I L') Q := by
    intro k
    induction k with
    | zero =>
      intro i L' z6 hi hf h0 h1
      have : i = T := by omega
      subst this
      exact rb_Trials_outermost_7 (br_t (by rw [cT]; exact nI_le (Nat.le_refl _) (by omega)) (H L' hf h0 h1))
    | succ k ih =>
      intro i L' z6 hi hf h0 h1
      have i43 := bi_wprint hW (j := i) (by omega)
      have nx := fun (L' : Nat → Nat → Int64) (z6 : Option Value) => ih (i + 1) L' z6 (by omega)
      have stT := be_st_T (g := I 171) (pr := pr) (gr := gr) (T := T) (i := i)
      have stF := be_st_F (g := I 171) (pr := pr) (gr := gr) (T := T) (i := i)
      have ok := be_ok_b (be_st_ok hW (pr := pr) (gr := gr) hT i)
      have keep : ∀ (L' : Nat → Nat → Int64) (z6 : Option Value), (∀ p j, p ≠ 72 → p ≠ 73 → L' p j = L p j) → L' 72 0 = (be_st (I 171) pr gr T i).1 → L' 72 1 = (be_st (I 171) pr gr T i).2 → be_st (I 171) pr gr T (i + 1) = be_st (I 171) pr gr T i → br_r (d + 3) 166 99 [some (.ref 39), some (.ref 72), some (.ref 73), some (.int pr), some (.int gr), some (.int (nI i)), z6] [] (br_hp n I L') Q := fun L' z6 a b c e => by
        refine rb_Trials_outermost_99 ?_
        rw [nI_add]
        exact nx L' z6 a (by rw [e]; exact b) (by rw [e]; exact c)
      have nw : be_new (I 171) pr T i = (bf_u (bc_u (I 171) pr (nI i) T) (bc_l (I 171) pr (nI i) T), bf_l (bc_u (I 171) pr (nI i) T) (bc_l (I 171) pr (nI i) T)) := rfl
      have hok2 := fun h => be_ok_b (be_new_ok hW (pr := pr) (i := i) hT h)
      have slope : be_pr (I 171) pr i = true → br_r (d + 2) 164 0 [some (.ref 39), some (.ref 73), some (.int pr), some (.int (nI i)), none, none, none, none, none, none, none, none, none, none, none, none, none] [] (br_hp n I L') (fun v h => br_r (d + 3) 166 41 [some (.ref 39), some (.ref 72), some (.ref 73), some (.int pr), some (.int gr), some (.int (nI i)), z6] (v.toList ++ []) (br_bk h) Q) := by
        intro hpr
        refine rs_W_slope rfl hW hT eT ?_
        generalize hU : bf_u (bc_u (I 171) pr (nI i) T) (bc_l (I 171) pr (nI i) T) = U at nw ⊢
        generalize hV : bf_l (bc_u (I 171) pr (nI i) T) (bc_l (I 171) pr (nI i) T) = V at nw ⊢
        have iff : 0 < V.toInt ↔ 0 < (bc_l (I 171) pr (nI i) T).toInt := by rw [← hV]; exact bf_l_iff
        have f2 : ∀ p j, p ≠ 72 → p ≠ 73 → br_u (br_u L' 73 0 U) 73 1 V p j = L p j := fun p j a b => by
          rw [br_u_n (by omega), br_u_n (by omega)]; exact hf p j a b
        have a0 : br_u (br_u L' 73 0 U) 73 1 V 72 0 = (be_st (I 171) pr gr T i).1 := by rw [br_u_n (by omega), br_u_n (by omega)]; exact h0
        have a1 : br_u (br_u L' 73 0 U) 73 1 V 72 1 = (be_st (I 171) pr gr T i).2 := by rw [br_u_n (by omega), br_u_n (by omega)]; exact h1
        have b0 : br_u (br_u L' 73 0 U) 73 1 V 73 0 = U := by rw [br_u_n (by omega), br_u_s]
        have b1 : br_u (br_u L' 73 0 U) 73 1 V 73 1 = V := br_u_s
        generalize br_u (br_u L' 73 0 U) 73 1 V = L2 at f2 a0 a1 b0 b1 ⊢
        refine rb_Trials_outermost_41 ⟨rfl, rs_isNone rfl (rb_Trials_outermost_45 ?_)⟩
        rw [b1, bn_0]
        refine ⟨fun hV0 => ⟨rfl, rs_isNone rfl (rb_Trials_outermost_55 ?_)⟩, fun hV0 => ?_⟩
        · have hin : be_in (I 171) pr T i = true := by unfold be_in; rw [hpr, decide_eq_true (iff.mp hV0)]; rfl
          have ok2 := hok2 (iff.mp hV0)
          rw [nw] at ok2
          simp only at ok2
          have take : ∀ z6 : Option Value, be_tk gr (be_st (I 171) pr gr T i) (be_new (I 171) pr T i) = true → br_r (d + 2) 143 0 [some (.ref 72), some (.ref 73)] [] (br_hp n I L2) (fun v h => br_r (d + 3) 166 99 [some (.ref 39), some (.ref 72), some (.ref 73), some (.int pr), some (.int gr), some (.int (nI i)), z6] (v.toList ++ []) (br_bk h) Q) := fun z6 hk => by
            refine rb_Fraction_copy_0 ⟨rfl, rfl, rfl, rfl, rb_Trials_outermost_99 ?_⟩
            rw [nI_add]
            have e := (stT hin hk).trans nw
            refine nx _ _ (fun p j a b => by rw [br_u_n (by omega), br_u_n (by omega)]; exact f2 p j a b) ?_ ?_
            · rw [br_u_n (by omega), br_u_s, b0, e]
            · rw [br_u_s, br_u_n (by omega), b1, e]
          rw [a1, bn_0]
          refine ⟨fun hq => ⟨rfl, rs_against rfl rfl (by rw [b1]; exact hV0) (by rw [a1]; exact hq) (by rw [b0]; exact ok2.1) (by rw [a0]; exact ok.1) (by rw [b1]; exact ok2.2.2) (by rw [a1]; exact ok.2.2) (rb_Trials_outermost_67 ⟨rfl, rs_isNone rfl (rb_Trials_outermost_73 ?_)⟩)⟩, fun hq => rb_Trials_outermost_67 ⟨rfl, rs_isNone rfl (rb_Trials_outermost_73 ?_)⟩⟩
          · rw [a1, bn_0, a0, b0, b1]
            have eX : U.toInt * (be_st (I 171) pr gr T i).2.toInt - (be_st (I 171) pr gr T i).1.toInt * V.toInt = be_X (be_st (I 171) pr gr T i) (be_new (I 171) pr T i) := by rw [nw]; rfl
            rw [eX, bs_sg_lt, bs_sg_gt]
            refine ⟨fun z => absurd hq z, fun _ => ⟨fun hg => ⟨fun hx => keep L2 _ f2 a0 a1 (stF (Or.inr ?_)), fun hx => ⟨rfl, take _ ?_⟩⟩, fun hg => ⟨fun hx => keep L2 _ f2 a0 a1 (stF (Or.inr ?_)), fun hx => ⟨rfl, take _ ?_⟩⟩⟩⟩
            · unfold be_tk; rw [decide_eq_true hq, if_pos hg, decide_eq_false hx]; rfl
            · unfold be_tk; rw [if_pos hg, decide_eq_true (Classical.not_not.mp hx), Bool.or_true]
            · unfold be_tk; rw [decide_eq_true hq, if_neg hg, decide_eq_false hx]; rfl
            · unfold be_tk; rw [if_neg hg, decide_eq_true (Classical.not_not.mp hx), Bool.or_true]
          · rw [a1, bn_0]
            refine ⟨fun _ => ⟨rfl, take _ ?_⟩, fun z => absurd hq (Classical.not_not.mp z |> fun y => absurd y hq)⟩
            unfold be_tk; rw [decide_eq_false hq]; rfl
        · exact keep L2 _ f2 a0 a1 (stF (Or.inl (by unfold be_in; rw [decide_eq_false (fun z => hV0 (iff.mpr z)), Bool.and_false])))
      refine rb_Trials_outermost_7 (br_f (by rw [cT]; exact nI_ge (by omega) (by omega)) ⟨fun hp => slope (by unfold be_pr; rw [decide_eq_true hp]; rfl), fun hp => ⟨vp_in_nI (by omega) (by omega), ?_⟩⟩)
      rw [nI_clamp (by omega), i43]
      refine ⟨fun h5 => slope (by unfold be_pr; rw [decide_eq_false h5, Bool.not_false, Bool.or_true]), fun h5 => keep L' _ hf h0 h1 (stF (Or.inl ?_))⟩
      unfold be_in be_pr; rw [decide_eq_false hp, decide_eq_true (Classical.not_not.mp h5)]; rfl
  refine rb_Trials_outermost_0 ⟨rfl, rs_clearF rfl (rb_Trials_outermost_4 (loop T 0 _ _ (by omega) (fun p j a b => by rw [br_u_n (by omega), br_u_n (by omega)]) ?_ ?_))⟩
  · rw [br_u_n (by omega), br_u_s]; rfl
  · rw [br_u_s]; rfl
theorem rs_M_edge {T : Nat} {pr gr : Int32} {f : Nat → Nat → Int32} {z3 z4 z5 z6 z7 z8 : Option Value} (hg : J 171 = g) (hW : br_cel 9 0 f g) (hT : T ≤ 20) (eT : g 1308 = nI T) (hJ : br_u J 169 0 (nI 0) 171 = g)
    (H : ∀ L' : Nat → Nat → Int64, (∀ p j, p ≠ 169 → L' p j = L p j) → L' 169 19 = (be_st g pr gr T T).1 → L' 169 20 = (be_st g pr gr T T).2 → Q (some (.int (nI (decide (0 < (be_st g pr gr T T).2.toInt)).toNat))) (br_hp n (br_u J 169 0 (nI 0)) L')) :
    br_r (d + 3) 282 0 [some (.ref 169), some (.int pr), some (.int gr), z3, z4, z5, z6, z7, z8] [] (br_hp n J L) Q := by
  have z0 : (lN 0).toInt = 0 := pk_lT (by omega)
  have loop : ∀ k i (L' : Nat → Nat → Int64) (z8 : Option Value), i + k = T → (∀ p j, p ≠ 169 → L' p j = L p j) →
      br_r (d + 3) 282 13 [some (.ref 169), some (.int pr), some (.int gr), some (.long (be_st g pr gr T i).1), none, some (.long (be_st g pr gr T i).2), none, some (.int (nI i)), z8] [] (br_hp n (br_u J 169 0 (nI 0)) L') Q := by
    intro k
    induction k with
    | zero =>
      intro i L' z8 hi hf
      have : i = T := by omega
      subst this
      have okq := be_st_ok hW (pr := pr) (gr := gr) hT i
      have ok := be_ok_b okq
      have id := be_ok_i okq
      refine rb_M_edge_13 (br_t (by rw [hJ, eT]; exact nI_le (Nat.le_refl _) (by omega)) (rs_M_tells (by omega) ok.2.1 (rb_M_edge_155 ?_)))
      rw [id.1, id.2]
      exact H _ (fun p j a => by rw [br_u_n (by omega), br_u_n (by omega)]; exact hf p j a) (by rw [br_u_n (by omega), br_u_s]) br_u_s
    | succ k ih =>
      intro i L' z8 hi hf
      have nx := fun (L' : Nat → Nat → Int64) (z8 : Option Value) => ih (i + 1) L' z8 (by omega)
      have stT := be_st_T (g := g) (pr := pr) (gr := gr) (T := T) (i := i)
      have stF := be_st_F (g := g) (pr := pr) (gr := gr) (T := T) (i := i)
      have ok := be_ok_b (be_st_ok hW (pr := pr) (gr := gr) hT i)
      have nw : be_new g pr T i = (bf_u (bc_u g pr (nI i) T) (bc_l g pr (nI i) T), bf_l (bc_u g pr (nI i) T) (bc_l g pr (nI i) T)) := rfl
      have hok2 := fun h => be_ok_b (be_new_ok hW (pr := pr) (i := i) hT h)
      have slope : be_pr g pr i = true → br_r (d + 2) 281 0 [some (.ref 169), some (.int pr), some (.int (nI i)), none, none, none, none, none, none, none, none, none, none, none, none, none] [] (br_hp n (br_u J 169 0 (nI 0)) L') (fun v h => br_r (d + 3) 282 51 [some (.ref 169), some (.int pr), some (.int gr), some (.long (be_st g pr gr T i).1), none, some (.long (be_st g pr gr T i).2), none, some (.int (nI i)), z8] (v.toList ++ []) (br_bk h) Q) := by
        intro hpr
        refine rs_M_slope (g := g) hJ hW hT eT (rb_M_edge_51 ?_)
        generalize hU : bf_u (bc_u g pr (nI i) T) (bc_l g pr (nI i) T) = U at nw ⊢
        generalize hV : bf_l (bc_u g pr (nI i) T) (bc_l g pr (nI i) T) = V at nw ⊢
        have iff : 0 < V.toInt ↔ 0 < (bc_l g pr (nI i) T).toInt := by rw [← hV]; exact bf_l_iff
        have f2 : ∀ p j, p ≠ 169 → br_u (br_u L' 169 19 U) 169 20 V p j = L p j := fun p j a => by
          rw [br_u_n (by omega), br_u_n (by omega)]; exact hf p j a
        have b0 : br_u (br_u L' 169 19 U) 169 20 V 169 19 = U := by rw [br_u_n (by omega), br_u_s]
        have b1 : br_u (br_u L' 169 19 U) 169 20 V 169 20 = V := br_u_s
        generalize br_u (br_u L' 169 19 U) 169 20 V = L2 at f2 b0 b1 ⊢
        have keep : be_st g pr gr T (i + 1) = be_st g pr gr T i → ∀ z8 : Option Value, br_r (d + 3) 282 13 [some (.ref 169), some (.int pr), some (.int gr), some (.long (be_st g pr gr T i).1), none, some (.long (be_st g pr gr T i).2), none, some (.int (nI i + nI 1)), z8] [] (br_hp n (br_u J 169 0 (nI 0)) L2) Q := fun e z8 => by
          have h := nx L2 z8 f2
          rw [e] at h
          rw [nI_add]; exact h
        by_cases hl : 0 < (bc_l g pr (nI i) T).toInt
        · have hin : be_in g pr T i = true := by unfold be_in; rw [hpr, decide_eq_true hl]; rfl
          have ok2 := hok2 hl
          rw [nw] at ok2
          simp only at ok2
          have hV0 := iff.mpr hl
          have eX : be_X (be_st g pr gr T i) (be_new g pr T i) = U.toInt * (be_st g pr gr T i).2.toInt - (be_st g pr gr T i).1.toInt * V.toInt := by rw [nw]; rfl
          have take : be_tk gr (be_st g pr gr T i) (be_new g pr T i) = true → ∀ (x3 x5 : Int64) (z8 : Option Value), br_r (d + 3) 282 105 [some (.ref 169), some (.int pr), some (.int gr), some (.long x3), none, some (.long x5), none, some (.int (nI i)), z8] [] (br_hp n (br_u J 169 0 (nI 0)) L2) Q := fun hk x3 x5 z8 => by
            have e := (stT hin hk).trans nw
            have h := nx L2 (some (.int (nI 1))) f2
            rw [e] at h
            refine rb_M_edge_105 ?_
            rw [b0, b1, nI_add]; exact h
          have left : be_tk gr (be_st g pr gr T i) (be_new g pr T i) = false → ∀ (z8 : Option Value), br_r (d + 3) 282 109 [some (.ref 169), some (.int pr), some (.int gr), some (.long (be_st g pr gr T i).1), none, some (.long (be_st g pr gr T i).2), none, some (.int (nI i)), z8] [] (br_hp n (br_u J 169 0 (nI 0)) L2) Q := fun hk z8 => rb_M_edge_109 (keep (stF (Or.inr hk)) _)
          rw [decide_eq_true hl]
          refine br_t br_10 ?_
          rw [br_cmpE, b0, b1]
          have hq0 : ¬ (be_st g pr gr T i).2 = lN 0 → 0 < (be_st g pr gr T i).2.toInt := fun hq => by
            have : ¬ (be_st g pr gr T i).2.toInt = 0 := fun z => hq (Int64.toInt_inj.mp (by rw [z, z0]))
            omega
          refine ⟨fun hq => take ?_ _ _ _, fun hq => ⟨fun hg => rs_M_isLess hV0 (hq0 hq) ok2.1 ok.1 ok2.2.2 ok.2.2 (rb_M_edge_102 ?_), fun hg => rs_M_isLess (hq0 hq) hV0 ok.1 ok2.1 ok.2.2 ok2.2.2 (rb_M_edge_82 ?_)⟩⟩
          · unfold be_tk; rw [hq, z0]; rfl
          · refine ⟨fun h5 => left ?_ _, fun h5 => take ?_ _ _ _⟩
            · unfold be_tk; rw [decide_eq_true (hq0 hq), if_pos hg, eX, bd_b0 h5]; rfl
            · unfold be_tk; rw [if_pos hg, eX, bd_b1 h5, Bool.or_true]
          · have sw : (be_st g pr gr T i).1.toInt * V.toInt - U.toInt * (be_st g pr gr T i).2.toInt < 0 ↔ 0 < be_X (be_st g pr gr T i) (be_new g pr T i) := by rw [eX]; omega
            refine ⟨fun h5 => left ?_ _, fun h5 => take ?_ _ _ _⟩
            · have h6 := of_decide_eq_false (bd_b0 h5)
              unfold be_tk; rw [decide_eq_true (hq0 hq), if_neg hg, decide_eq_false (fun z => h6 (sw.mpr z))]; rfl
            · have h6 := of_decide_eq_true (bd_b1 h5)
              unfold be_tk; rw [if_neg hg, decide_eq_true (sw.mp h6), Bool.or_true]
        · rw [decide_eq_false hl]
          exact br_f (fun z => z rfl) (keep (stF (Or.inl (by unfold be_in; rw [decide_eq_false hl, Bool.and_false]))) _)
      refine rb_M_edge_13 (br_f (by rw [hJ, eT]; exact nI_ge (by omega) (by omega)) ⟨fun hp => slope (by unfold be_pr; rw [decide_eq_true hp]; rfl), fun hp => ?_⟩)
      rw [nI_add, nI_clamp (by omega), hJ]
      refine ⟨vp_in_nI (by omega) (by omega), fun h5 => ?_, fun h5 => slope (by unfold be_pr; rw [decide_eq_false h5, Bool.not_false, Bool.or_true])⟩
      have e := stF (Or.inl (by unfold be_in be_pr; rw [decide_eq_false hp, decide_eq_true h5]; rfl))
      have h := nx L' z8 hf
      rw [e] at h
      rw [nI_add]; exact h
  exact rb_M_edge_0 (loop T 0 L _ (by omega) (fun _ _ _ => rfl))
end
section
variable {n : Nat} {xs : Nat → Int32} {I : Nat → Nat → Int32} {L : Nat → Nat → Int64}
theorem bp_edge (hI : br_Inv xs I L) (x1 x2 : Int32) (hx1 : x1 = nI 0 ∨ x1 = nI 1) (hx2 : x2 = nI 0 ∨ x2 = nI 1) : br_pair n xs 165 282 [some (.ref 8), some (.int x1), some (.int x2)] [some (.ref 169), some (.int x1), some (.int x2), none, none, none, none, none, none] I L := by
  obtain ⟨T, hT, eT⟩ := br_trials hI
  have ok := be_ok_b (be_st_ok hI.1.1 (pr := x1) (gr := x2) hT T)
  intro d Q K
  refine rb_A_edge_0 (rs_W_edge hI.1.1 hT eT (fun L1 f1 a0 a1 => rb_A_edge_20 (rs_isNone rfl (rb_A_edge_27 ?_))))
  rw [a1, bn_0]
  have fin : Q (some (.int (nI (decide (0 < (be_st (I 171) x1 x2 T T).2.toInt)).toNat))) (br_hp n I L1) := by
    refine K _ I _ (fun _ => rfl) (fun d' Q' k' => rs_M_edge (g := I 171) rfl hI.1.1 hT eT (by rw [br_u_q (by omega)]) (fun L2 f2 c0 c1 => k' _ _ (br_Inv_f hI (fun p j hp => ?_) (fun p j h1 h2 => ?_) ?_ ?_ ?_)))
    · unfold br_scr at hp; rw [br_u_n (by omega)]
    · rw [f2 p j h2, f1 p j (by omega) (by omega)]
    · rw [f2 72 0 (by omega), a0, c0]
    · rw [f2 72 1 (by omega), a1, c1]
    · rw [f2 72 1 (by omega), a1]; exact ok.2.1
  refine ⟨fun h => ?_, fun h => ?_⟩
  · rw [decide_eq_true h] at fin; exact fin
  · rw [decide_eq_false h] at fin; exact fin
end
