set_option maxRecDepth 100000
set_option maxHeartbeats 4000000
section
variable {d n : Nat} {Q : br_Q} {I J : Nat → Nat → Int32} {L : Nat → Nat → Int64} {g w : Nat → Int32} {N R c r : Nat}
theorem bd_P_ne {g : Nat → Int32} {r : Nat} {w : Nat → Int32} {c : Nat} (h : ¬ g (667 + c) = nI r) : bd_P g r w c = false := by unfold bd_P; rw [decide_eq_false h]; rfl
theorem bd_Mg (hg : I 171 = g) (hM : bd_M I w J) {k : Nat} (hk : ¬ (787 ≤ k ∧ k < 827)) : J 171 k = g k := by rw [hM.1 171 k (by omega) (by omega), hg]
theorem rs_M_dealsIn {m : Nat} {s : Int32} {z3 z4 z5 z6 : Option Value} (hN : N ≤ 40) (hm : m ≤ 40) (hg : I 171 = g) (eN : g 666 = nI N) (hM : bd_M I w J) (hs : J 169 18 = s)
    (H : ∀ J', bd_M I (bd_st (bd_P g r w) (bm_cnt (bd_P g r w) N, m, s, w) N).2.2.2 J' → J' 169 18 = (bd_st (bd_P g r w) (bm_cnt (bd_P g r w) N, m, s, w) N).2.2.1 → Q none (br_hp n J' L)) :
    br_r (d + 1) 234 0 [some (.ref 169), some (.int (nI r)), some (.int (nI m)), z3, z4, z5, z6] [] (br_hp n J L) Q := by
  have second : ∀ i c (J : Nat → Nat → Int32) (z2 z6 : Option Value), c + i = N → bd_M I (bd_st (bd_P g r w) (bm_cnt (bd_P g r w) N, m, s, w) c).2.2.2 J → J 169 18 = (bd_st (bd_P g r w) (bm_cnt (bd_P g r w) N, m, s, w) c).2.2.1 →
      br_r (d + 1) 234 71 [some (.ref 169), some (.int (nI r)), z2, some (.int (nI (bd_st (bd_P g r w) (bm_cnt (bd_P g r w) N, m, s, w) c).1)), some (.int (nI (min (bd_st (bd_P g r w) (bm_cnt (bd_P g r w) N, m, s, w) c).2.1 (bd_st (bd_P g r w) (bm_cnt (bd_P g r w) N, m, s, w) c).1))), some (.int (nI c)), z6] [] (br_hp n J L) Q := by
    intro i
    induction i with
    | zero =>
      intro c J z2 z6 hc hM hs
      have : c = N := by omega
      subst this
      exact rb_M_dealsIn_71 (br_t (by rw [bd_Mg hg hM (by omega), eN]; exact nI_le (Nat.le_refl _) (by omega)) (H J hM hs))
    | succ i ih =>
      intro c J z2 z6 hc hM hs
      have h1 := fun (J : Nat → Nat → Int32) (z2 z6 : Option Value) => ih (c + 1) J z2 z6 (by omega)
      have hl := bd_st_l (P := bd_P g r w) (q := (bm_cnt (bd_P g r w) N, m, s, w)) (N := N) rfl c (by omega)
      have hw := bd_st_w (P := bd_P g r w) (q := (bm_cnt (bd_P g r w) N, m, s, w)) (c := c) c (Nat.le_refl _)
      have hm2 := bd_st_m (P := bd_P g r w) (q := (bm_cnt (bd_P g r w) N, m, s, w)) c
      have hle := bm_cnt_le (p := bd_P g r w) N
      have hmo := bm_cnt_mono (P := bd_P g r w) (a := c + 1) N (by omega)
      have stT := bd_st_T (P := bd_P g r w) (q := (bm_cnt (bd_P g r w) N, m, s, w)) (k := c)
      have stF := bd_st_F (P := bd_P g r w) (q := (bm_cnt (bd_P g r w) N, m, s, w)) (k := c)
      generalize bd_st (bd_P g r w) (bm_cnt (bd_P g r w) N, m, s, w) (c + 1) = q1 at h1 stT stF
      generalize bd_st (bd_P g r w) (bm_cnt (bd_P g r w) N, m, s, w) c = q at hl hw hm2 stT stF hM hs ⊢
      obtain ⟨l, mm, ss, ww⟩ := q
      simp only at hl hw hm2 hM hs stT stF ⊢
      have room := bd_Mg (k := 667 + c) hg hM (by omega)
      refine rb_M_dealsIn_71 (br_f (by rw [bd_Mg hg hM (by omega), eN]; exact nI_ge (by omega) (by omega)) ?_)
      rw [nI_add, nI_clamp (by omega), room]
      refine ⟨vp_in_nI (by omega) (by omega), fun h => ?_, fun h => rs_M_dealt (g := g) (w := w) (by omega) (Classical.not_not.mp h) (bd_Mg hg hM (by omega)) ((hM.2 c (by omega)).trans hw) (rb_M_dealsIn_105 ⟨fun h5 => ?_, fun h5 => ?_⟩)⟩
      · have e := stF (bd_P_ne h)
        subst e
        rw [nI_add]; exact h1 J _ _ hM hs
      · have hp := bd_b1 h5
        have e := stT hp
        subst e
        rw [bm_cnt_T hp] at hmo
        refine rb_M_draw_0 ?_
        rw [br_u_s, hs]
        refine rb_M_dealsIn_115 ?_
        have er : nI 1103515245 * ss + nI 12345 = bd_nx ss := rfl
        have hx := Nat.mod_lt (bd_x (bd_nx ss)) (show 0 < l by omega)
        rw [er, bd_rem (by omega) (by omega), nI_leI (by omega) (by omega), br_dn, pk_sub (by omega), nI_add, nI_add, nI_clamp (by omega)]
        refine ⟨nI_ne0 (by omega) (by omega), fun h6 => ⟨vp_in_nI (by omega) (by omega), ?_⟩, fun h6 => ⟨vp_in_nI (by omega) (by omega), ?_⟩⟩
        · have h7 := fun J => h1 J (br_kl z2) (some (.int (nI 0)))
          simp only [bd_s1] at h7
          rw [if_neg (by omega), if_neg (by omega), show min mm (l - 1) = min mm l - 0 by omega] at h7
          rw [pk_sub (by omega)]
          exact h7 _ (bd_M_u (by omega) (bd_M_s hM)) (by rw [br_u_n (by omega), br_u_s])
        · have h7 := fun J => h1 J (br_kl z2) (some (.int (nI 1)))
          simp only [bd_s1] at h7
          rw [if_pos (by omega), if_pos (by omega), show min (mm - 1) (l - 1) = min mm l - 1 by omega] at h7
          rw [pk_sub (by omega)]
          exact h7 _ (bd_M_u (by omega) (bd_M_s hM)) (by rw [br_u_n (by omega), br_u_s])
      · have e := stF (bd_b0 (Classical.not_not.mp h5))
        subst e
        rw [nI_add]; exact h1 J _ _ hM hs
  have first : ∀ k c (z5 z6 : Option Value), c + k = N → br_r (d + 1) 234 5 [some (.ref 169), some (.int (nI r)), some (.int (nI m)), some (.int (nI (bm_cnt (bd_P g r w) c))), some (.int (nI c)), z5, z6] [] (br_hp n J L) Q := by
    intro k
    induction k with
    | zero =>
      intro c z5 z6 hc
      have : c = N := by omega
      subst this
      have hle := bm_cnt_le (p := bd_P g r w) c
      have s0 := second c 0 J (some (.int (nI m))) z6 (by omega) hM hs
      refine rb_M_dealsIn_5 (br_t (by rw [bd_Mg hg hM (by omega), eN]; exact nI_le (Nat.le_refl _) (by omega)) ⟨fun h => ?_, fun h => ?_⟩)
      · rw [nI_leI (by omega) (by omega)] at h
        have e : min m (bm_cnt (bd_P g r w) c) = bm_cnt (bd_P g r w) c := by omega
        simp only [bd_st] at s0
        rw [e] at s0; exact s0
      · rw [nI_leI (by omega) (by omega)] at h
        have e : min m (bm_cnt (bd_P g r w) c) = m := by omega
        simp only [bd_st] at s0
        rw [e] at s0; exact s0
    | succ k ih =>
      intro c z5 z6 hc
      have h1 := ih (c + 1) z5 z6 (by omega)
      have room := bd_Mg (k := 667 + c) hg hM (by omega)
      refine rb_M_dealsIn_5 (br_f (by rw [bd_Mg hg hM (by omega), eN]; exact nI_ge (by omega) (by omega)) ?_)
      rw [nI_add, nI_clamp (by omega), room]
      refine ⟨vp_in_nI (by omega) (by omega), fun h => ?_, fun h => rs_M_dealt (g := g) (w := w) (by omega) (Classical.not_not.mp h) (bd_Mg hg hM (by omega)) (hM.2 c (by omega)) (rb_M_dealsIn_40 ⟨fun h5 => ?_, fun h5 => ?_⟩)⟩
      · rw [bm_cnt_F (bd_P_ne h)] at h1
        rw [nI_add, nI_add]; exact h1
      · rw [bm_cnt_F (bd_b0 h5)] at h1
        rw [nI_add, nI_add]; exact h1
      · rw [bm_cnt_T (bd_b1 h5)] at h1
        rw [nI_add, nI_add]; exact h1
  exact rb_M_dealsIn_0 (first N 0 _ _ (by omega))
theorem rs_M_dealCh {m : Nat} {s : Int32} {z3 : Option Value} (hN : N ≤ 40) (hR : R ≤ 18) (hm : m ≤ 40) (hg : I 171 = g) (eN : g 666 = nI N) (eR : g 629 = nI R) (hM : bd_M I w J) (hs : J 169 18 = s)
    (H : ∀ J', bd_M I (bd_R g N m (s, w) R).2 J' → Q (some (.int (nI (bm_cnt (fun c => decide ((bd_R g N m (s, w) R).2 c = nI 1)) N)))) (br_hp n J' L)) :
    br_r (d + 2) 231 56 [some (.ref 169), some (.int (nI 0)), some (.int (nI m)), z3, none] [] (br_hp n J L) Q := by
  have loop : ∀ k r (J : Nat → Nat → Int32) (z3 : Option Value), r + k = R → bd_M I (bd_R g N m (s, w) r).2 J → J 169 18 = (bd_R g N m (s, w) r).1 →
      br_r (d + 2) 231 59 [some (.ref 169), some (.int (nI 0)), some (.int (nI m)), z3, some (.int (nI r))] [] (br_hp n J L) Q := by
    intro k
    induction k with
    | zero =>
      intro r J z3 hr hM hs
      have : r = R := by omega
      subst this
      refine rb_M_deal_59 (br_t (by rw [bd_Mg hg hM (by omega), eR]; exact nI_le (Nat.le_refl _) (by omega)) (rs_M_named (g := J 171) rfl (by rw [bd_Mg hg hM (by omega), eN]) hN (rb_M_deal_93 ?_)))
      rw [bm_cnt_c (q := fun c => decide ((bd_R g N m (s, w) r).2 c = nI 1)) N (fun c hc => by rw [hM.2 c (by omega)])]
      exact H J hM
    | succ k ih =>
      intro r J z3 hr hM hs
      refine rb_M_deal_59 (br_f (by rw [bd_Mg hg hM (by omega), eR]; exact nI_ge (by omega) (by omega)) (br_f (fun z => z rfl) (rs_M_dealsIn hN hm hg eN hM hs (fun J' hM' hs' => rb_M_deal_83 ?_))))
      rw [nI_add]
      exact ih (r + 1) J' _ (by omega) hM' hs'
  exact rb_M_deal_56 (loop R 0 J _ (by omega) hM hs)
/-- the words of a room, up to a child -/
def bd_wk (P : Nat → Bool) (k : Nat) (x : Int32) (w : Nat → Int32) : Nat → Int32 := fun c => if c < k ∧ P c = true then x else w c
theorem bd_wk_0 {P : Nat → Bool} {x : Int32} {w : Nat → Int32} {c : Nat} : bd_wk P 0 x w c = w c := if_neg (by omega)
theorem bd_wk_k {P : Nat → Bool} {x : Int32} {w : Nat → Int32} {k : Nat} : bd_wk P k x w k = w k := if_neg (by omega)
theorem bd_wk_T {P : Nat → Bool} {x : Int32} {w : Nat → Int32} {k c : Nat} (h : P k = true) : bd_wk P (k + 1) x w c = br_v (bd_wk P k x w) k x c := by
  by_cases e : c = k
  · subst e; rw [br_v_s]; exact if_pos ⟨by omega, h⟩
  · rw [br_v_j e]
    unfold bd_wk
    by_cases h2 : c < k ∧ P c = true
    · rw [if_pos h2, if_pos ⟨by omega, h2.2⟩]
    · rw [if_neg h2, if_neg (fun z => h2 ⟨by omega, z.2⟩)]
theorem bd_wk_F {P : Nat → Bool} {x : Int32} {w : Nat → Int32} {k c : Nat} (h : P k = false) : bd_wk P (k + 1) x w c = bd_wk P k x w c := by
  unfold bd_wk
  by_cases h2 : c < k ∧ P c = true
  · rw [if_pos h2, if_pos ⟨by omega, h2.2⟩]
  · rw [if_neg h2, if_neg (fun z => h2 ⟨?_, z.2⟩)]
    by_cases e : c = k
    · subst e; rw [h] at z; exact absurd z.2 Bool.false_ne_true
    · omega
theorem rs_W_dealRo {m : Nat} {s : Int32} {z3 z4 z5 z6 z7 : Option Value} (hN : N ≤ 40) (hR : R ≤ 18) (hm : m ≤ 40) (cN : I 9 8 = nI N) (cR : I 9 2 = nI R) (e12 : ∀ c, c < 40 → I 12 c = g (667 + c)) (e16 : ∀ c, c < 40 → I 16 c = g (827 + c)) (hA : bd_A I w J)
    (H : ∀ J', bd_A I (bd_Q g N R (m, s, w) R).2.2 J' → Q none (br_hp n J' L)) : br_r (d + 1) 90 0 [some (.ref 9), some (.int (nI m)), some (.int s), z3, z4, z5, z6, z7] [] (br_hp n J L) Q := by
  have outer : ∀ k r (J : Nat → Nat → Int32) (z1 z2 z6 z7 : Option Value), r + k = R → bd_A I (bd_Q g N R (m, s, w) r).2.2 J →
      br_r (d + 1) 90 8 [some (.ref 9), z1, z2, some (.int (bd_Q g N R (m, s, w) r).2.1), some (.int (nI (bd_Q g N R (m, s, w) r).1)), some (.int (nI r)), z6, z7] [] (br_hp n J L) Q := by
    intro k
    induction k with
    | zero =>
      intro r J z1 z2 z6 z7 hr hA
      have : r = R := by omega
      subst this
      exact rb_World_dealByRooms_8 (br_t (by rw [hA.1 9 2 (by omega), cR]; exact nI_le (Nat.le_refl _) (by omega)) (H J hA))
    | succ k ih =>
      intro r J z1 z2 z6 z7 hr hA
      have h1 := fun (J : Nat → Nat → Int32) (z2 z6 z7 : Option Value) => ih (r + 1) J z1 z2 z6 z7 (by omega)
      have hm2 := bd_Q_m (g := g) (N := N) (R := R) (q0 := (m, s, w)) r
      have st : bd_Q g N R (m, s, w) (r + 1) = ((if bd_x (bd_nx (bd_Q g N R (m, s, w) r).2.1) % (R - r) < (bd_Q g N R (m, s, w) r).1 then (bd_Q g N R (m, s, w) r).1 - 1 else (bd_Q g N R (m, s, w) r).1), bd_nx (bd_Q g N R (m, s, w) r).2.1, bd_wk (bd_P g r (bd_Q g N R (m, s, w) r).2.2) N (if bd_x (bd_nx (bd_Q g N R (m, s, w) r).2.1) % (R - r) < (bd_Q g N R (m, s, w) r).1 then nI 1 else nI 0) (bd_Q g N R (m, s, w) r).2.2) := rfl
      generalize bd_Q g N R (m, s, w) (r + 1) = q1 at h1 st
      generalize bd_Q g N R (m, s, w) r = q at hm2 st hA ⊢
      obtain ⟨mm, ss, ww⟩ := q
      simp only at hm2 st hA ⊢
      subst st
      simp only at h1
      refine rb_World_dealByRooms_8 (br_f (by rw [hA.1 9 2 (by omega), cR]; exact nI_ge (by omega) (by omega)) (rb_World_draw_0 (rb_World_dealByRooms_21 ?_)))
      have er : nI 1103515245 * ss + nI 12345 = bd_nx ss := rfl
      have hx := Nat.mod_lt (bd_x (bd_nx ss)) (show 0 < R - r by omega)
      rw [er, hA.1 9 2 (by omega), cR, pk_sub (by omega), bd_rem (by omega) (by omega), nI_leI (by omega) (by omega)]
      have inner : ∀ (x : Int32) (m3 : Nat) (z2 : Option Value), (x = nI 0 ∨ x = nI 1) → (∀ (J : Nat → Nat → Int32) (z7 : Option Value), bd_A I (bd_wk (bd_P g r ww) N x ww) J → br_r (d + 1) 90 8 [some (.ref 9), z1, z2, some (.int (bd_nx ss)), some (.int (nI m3)), some (.int (nI (r + 1))), some (.int x), z7] [] (br_hp n J L) Q) →
          ∀ i c (J : Nat → Nat → Int32), c + i = N → bd_A I (bd_wk (bd_P g r ww) c x ww) J → br_r (d + 1) 90 65 [some (.ref 9), z1, z2, some (.int (bd_nx ss)), some (.int (nI m3)), some (.int (nI r)), some (.int x), some (.int (nI c))] [] (br_hp n J L) Q := by
        intro x m3 z2 hx hend i
        induction i with
        | zero =>
          intro c J hc hA
          have : c = N := by omega
          subst this
          refine rb_World_dealByRooms_65 (br_t (by rw [hA.1 9 8 (by omega), cN]; exact nI_le (Nat.le_refl _) (by omega)) ?_)
          rw [nI_add]; exact hend J _ hA
        | succ i ihi =>
          intro c J hc hA
          refine rb_World_dealByRooms_65 (br_f (by rw [hA.1 9 8 (by omega), cN]; exact nI_ge (by omega) (by omega)) (rs_W_dealt (g := g) (w := ww) (by omega) (by rw [hA.1 12 c (by omega)]; exact e12 c (by omega)) (by rw [hA.1 16 c (by omega)]; exact e16 c (by omega)) ((hA.2 c (by omega)).trans bd_wk_k) (rb_World_dealByRooms_82 ⟨fun h => ?_, fun h => ?_⟩)))
          · rw [nI_add]
            exact ihi (c + 1) J (by omega) (bd_A_w hA (fun e _ => bd_wk_F (bd_b0 h)))
          · have h5 := ihi (c + 1) (br_u J 15 c x) (by omega) (bd_A_w (bd_A_u (by omega) hA) (fun e _ => bd_wk_T (bd_b1 h)))
            rw [nI_add, nI_clamp (by omega)]
            rcases hx with rfl | rfl
            · exact ⟨fun _ => ⟨vp_in_nI (by omega) (by omega), h5⟩, fun z => absurd rfl z⟩
            · exact ⟨fun z => absurd z br_10, fun _ => ⟨vp_in_nI (by omega) (by omega), h5⟩⟩
      refine ⟨nI_ne0 (by omega) (by omega), fun h5 => ?_, fun h5 => ?_⟩
      · rw [if_neg (by omega), if_neg (by omega)] at h1
        exact inner (nI 0) mm _ (Or.inl rfl) (fun J z7 hA => h1 J _ _ _ hA) N 0 J (by omega) (bd_A_w hA (fun c _ => bd_wk_0))
      · rw [if_pos (by omega), if_pos (by omega)] at h1
        rw [pk_sub (by omega)]
        exact inner (nI 1) (mm - 1) _ (Or.inr rfl) (fun J z7 hA => h1 J _ _ _ hA) N 0 J (by omega) (bd_A_w hA (fun c _ => bd_wk_0))
  exact rb_World_dealByRooms_0 (outer R 0 J _ _ _ _ (by omega) hA)
theorem rs_M_dealRo {m : Nat} {s : Int32} {z2 z3 z4 z5 z6 : Option Value} (hN : N ≤ 40) (hR : R ≤ 18) (hm : m ≤ 40) (hg : I 171 = g) (eN : g 666 = nI N) (eR : g 629 = nI R) (hM : bd_M I w J) (hs : J 169 18 = s)
    (H : ∀ J', bd_M I (bd_Q g N R (m, s, w) R).2.2 J' → Q none (br_hp n J' L)) :
    br_r (d + 1) 232 0 [some (.ref 169), some (.int (nI m)), z2, z3, z4, z5, z6] [] (br_hp n J L) Q := by
  have outer : ∀ k r (J : Nat → Nat → Int32) (z1 z5 z6 : Option Value), r + k = R → bd_M I (bd_Q g N R (m, s, w) r).2.2 J → J 169 18 = (bd_Q g N R (m, s, w) r).2.1 →
      br_r (d + 1) 232 23 [some (.ref 169), z1, some (.int (nI (R - r))), some (.int (nI (min (bd_Q g N R (m, s, w) r).1 (R - r)))), some (.int (nI r)), z5, z6] [] (br_hp n J L) Q := by
    intro k
    induction k with
    | zero =>
      intro r J z1 z5 z6 hr hM hs
      have : r = R := by omega
      subst this
      exact rb_M_dealsRooms_23 (br_t (by rw [bd_Mg hg hM (by omega), eR]; exact nI_le (Nat.le_refl _) (by omega)) (H J hM))
    | succ k ih =>
      intro r J z1 z5 z6 hr hM hs
      have h1 := fun (J : Nat → Nat → Int32) (z1 z5 z6 : Option Value) => ih (r + 1) J z1 z5 z6 (by omega)
      have hm2 := bd_Q_m (g := g) (N := N) (R := R) (q0 := (m, s, w)) r
      have st : bd_Q g N R (m, s, w) (r + 1) = ((if bd_x (bd_nx (bd_Q g N R (m, s, w) r).2.1) % (R - r) < (bd_Q g N R (m, s, w) r).1 then (bd_Q g N R (m, s, w) r).1 - 1 else (bd_Q g N R (m, s, w) r).1), bd_nx (bd_Q g N R (m, s, w) r).2.1, bd_wk (bd_P g r (bd_Q g N R (m, s, w) r).2.2) N (if bd_x (bd_nx (bd_Q g N R (m, s, w) r).2.1) % (R - r) < (bd_Q g N R (m, s, w) r).1 then nI 1 else nI 0) (bd_Q g N R (m, s, w) r).2.2) := rfl
      generalize bd_Q g N R (m, s, w) (r + 1) = q1 at h1 st
      generalize bd_Q g N R (m, s, w) r = q at hm2 st hM hs ⊢
      obtain ⟨mm, ss, ww⟩ := q
      simp only at hm2 st hM hs ⊢
      subst st
      simp only at h1
      refine rb_M_dealsRooms_23 (br_f (by rw [bd_Mg hg hM (by omega), eR]; exact nI_ge (by omega) (by omega)) (rb_M_draw_0 ?_))
      rw [br_u_s, hs]
      refine rb_M_dealsRooms_40 ?_
      have er : nI 1103515245 * ss + nI 12345 = bd_nx ss := rfl
      have hx := Nat.mod_lt (bd_x (bd_nx ss)) (show 0 < R - r by omega)
      rw [er, bd_rem (by omega) (by omega), nI_leI (by omega) (by omega)]
      have inner : ∀ (b : Bool) (m3 m4 : Nat) (z1 : Option Value), m3 ≤ 40 → m4 = m3 - b.toNat → b.toNat ≤ m3 → (∀ (J : Nat → Nat → Int32) (z5 z6 : Option Value), bd_M I (bd_wk (bd_P g r ww) N (nI b.toNat) ww) J → J 169 18 = bd_nx ss → br_r (d + 1) 232 23 [some (.ref 169), (br_kl z1), some (.int (nI (R - (r + 1)))), some (.int (nI m4)), some (.int (nI (r + 1))), z5, z6] [] (br_hp n J L) Q) →
          ∀ i c (J : Nat → Nat → Int32), c + i = N → bd_M I (bd_wk (bd_P g r ww) c (nI b.toNat) ww) J → J 169 18 = bd_nx ss → br_r (d + 1) 232 56 [some (.ref 169), z1, some (.int (nI (R - r))), some (.int (nI m3)), some (.int (nI r)), some (.int (nI b.toNat)), some (.int (nI c))] [] (br_hp n J L) Q := by
        intro b m3 m4 z1 h40 hm4 hb hend i
        induction i with
        | zero =>
          intro c J hc hM hs
          have : c = N := by omega
          subst this
          have h5 := hend J (some (.int (nI b.toNat))) (some (.int (nI c))) hM hs
          refine rb_M_dealsRooms_56 (br_t (by rw [bd_Mg hg hM (by omega), eN]; exact nI_le (Nat.le_refl _) (by omega)) ?_)
          subst hm4
          rw [br_dn, pk_sub (by omega), nI_add, show R - r - 1 = R - (r + 1) by omega]
          cases b with
          | false =>
            refine ⟨fun _ => ?_, fun z => absurd rfl z⟩
            rw [pk_sub (by omega)]; exact h5
          | true =>
            refine ⟨fun z => absurd z br_10, fun _ => ?_⟩
            have hb2 : 1 ≤ m3 := hb
            rw [pk_sub hb2]; exact h5
        | succ i ihi =>
          intro c J hc hM hs
          have room := bd_Mg (k := 667 + c) hg hM (by omega)
          refine rb_M_dealsRooms_56 (br_f (by rw [bd_Mg hg hM (by omega), eN]; exact nI_ge (by omega) (by omega)) ?_)
          rw [nI_add, nI_clamp (by omega), room]
          refine ⟨vp_in_nI (by omega) (by omega), fun h => ?_, fun h => rs_M_dealt (g := g) (w := ww) (by omega) (Classical.not_not.mp h) (bd_Mg hg hM (by omega)) ((hM.2 c (by omega)).trans bd_wk_k) (rb_M_dealsRooms_91 ⟨fun h => ?_, fun h => ?_⟩)⟩
          · rw [nI_add]
            exact ihi (c + 1) J (by omega) (bd_M_w hM (fun e _ => bd_wk_F (bd_P_ne h))) hs
          · rw [nI_add]
            exact ihi (c + 1) J (by omega) (bd_M_w hM (fun e _ => bd_wk_F (bd_b0 h))) hs
          · have h5 := ihi (c + 1) (br_u J 171 (787 + c) (nI b.toNat)) (by omega) (bd_M_w (bd_M_u (by omega) hM) (fun e _ => bd_wk_T (bd_b1 h))) (by rw [br_u_n (by omega)]; exact hs)
            rw [nI_add, nI_add, nI_clamp (by omega)]
            cases b with
            | false => exact ⟨fun _ => ⟨vp_in_nI (by omega) (by omega), h5⟩, fun z => absurd rfl z⟩
            | true => exact ⟨fun z => absurd z br_10, fun _ => ⟨vp_in_nI (by omega) (by omega), h5⟩⟩
      refine ⟨nI_ne0 (by omega) (by omega), fun h5 => ?_, fun h5 => ?_⟩
      · rw [if_neg (by omega), if_neg (by omega)] at h1
        exact inner false (min mm (R - r)) (min mm (R - (r + 1))) _ (by omega) (by show _ = _ - 0; omega) (Nat.zero_le _) (fun J z5 z6 hM hs => h1 J _ _ _ hM hs) N 0 _ (by omega) (bd_M_w (bd_M_s hM) (fun c _ => bd_wk_0)) (by rw [br_u_s])
      · rw [if_pos (by omega), if_pos (by omega)] at h1
        exact inner true (min mm (R - r)) (min (mm - 1) (R - (r + 1))) _ (by omega) (by show _ = _ - 1; omega) (by show 1 ≤ _; omega) (fun J z5 z6 hM hs => h1 J _ _ _ hM hs) N 0 _ (by omega) (bd_M_w (bd_M_s hM) (fun c _ => bd_wk_0)) (by rw [br_u_s])
  have l0 := outer R 0 J
  refine rb_M_dealsRooms_0 ?_
  rw [bd_Mg hg hM (by omega), eR, nI_leI (by omega) (by omega)]
  refine ⟨fun h => ?_, fun h => ?_⟩
  · have h2 := l0 (some (.int (nI m))) z5 z6 (by omega) hM hs
    have e : min (bd_Q g N R (m, s, w) 0).1 (R - 0) = R := by show min m (R - 0) = R; omega
    rw [e] at h2; exact h2
  · have h2 := l0 (some (.int (nI m))) z5 z6 (by omega) hM hs
    have e : min (bd_Q g N R (m, s, w) 0).1 (R - 0) = m := by show min m (R - 0) = m; omega
    rw [e] at h2; exact h2
end
/-- one row of the world's cells is new, told by its cells -/
theorem br_cel_x {w o : Nat} {f f' : Nat → Nat → Int32} {g g' : Nat → Int32} (h : br_cel w o f g) (r : br_Rw) (hr : r ∈ br_rows) (hf : ∀ p j, w ≤ p → p ≤ w + 42 → ¬ (p = w + 20 ∧ j = 1) → p ≠ w + 21 → ¬ (p = w + r.1 ∧ r.2.1 ≤ j ∧ j < r.2.1 + r.2.2.1) → f' p j = f p j)
    (hg : ∀ k, k < 1389 → k < 105 ∨ 629 ≤ k → ¬ (r.2.2.2.1 ≤ k ∧ k < r.2.2.2.1 + r.2.2.1) → g' (o + k) = g (o + k))
    (hx : ∀ j, j < r.2.2.1 → f' (w + r.1) (r.2.1 + j) = g' (o + (r.2.2.2.1 + j)) ∧ r.2.2.2.2.1 ≤ (g' (o + (r.2.2.2.1 + j))).toInt ∧ (g' (o + (r.2.2.2.1 + j))).toInt ≤ r.2.2.2.2.2) : br_cel w o f' g' := by
  intro s hs j hj
  have h1 := List.all_eq_true.mp (List.all_eq_true.mp br_rows_apart r hr) s hs
  unfold br_apart at h1
  simp only [Bool.and_eq_true, Bool.or_eq_true, Nat.ble_eq, Bool.not_eq_true', beq_eq_false_iff_ne, ne_eq, decide_eq_true_eq] at h1
  rcases h1 with h1 | ⟨h1, h2⟩
  · subst h1
    exact hx j hj
  · have h4 := List.all_eq_true.mp br_rows_in s hs
    simp only [Bool.and_eq_true, Bool.or_eq_true, Nat.ble_eq, Bool.not_eq_true', Bool.and_eq_false_iff, beq_eq_false_iff_ne, ne_eq] at h4
    obtain ⟨⟨⟨⟨h5, h6⟩, h7⟩, h8⟩, h9⟩ := h4
    have h10 : ¬ (w + s.1 = w + 20 ∧ s.2.1 + j = 1) := by
      intro z
      rcases h8 with h8 | h8
      · exact h8 (by omega)
      · rw [← Bool.not_eq_true, Nat.ble_eq] at h8
        omega
    rw [hf (w + s.1) (s.2.1 + j) (by omega) (by omega) h10 (by omega) (by omega), hg (s.2.2.2.1 + j) (by omega) (by omega) (by omega)]
    exact h s hs j hj
section
variable {n : Nat} {xs : Nat → Int32} {I : Nat → Nat → Int32} {L : Nat → Nat → Int64}
/-- the words alone are new -/
theorem br_Inv_wd (hI : br_Inv xs I L) {N : Nat} (hN : N ≤ 40) (eN : I 171 666 = nI N) {w : Nat → Int32} (hw : ∀ c, w c = I 171 (787 + c) ∨ (c < N ∧ (w c = nI 0 ∨ w c = nI 1))) {M : Nat → Nat → Int32} (h15 : ∀ c, c < 40 → M 15 c = w c) (h171 : ∀ c, c < 40 → M 171 (787 + c) = w c)
    (hM : ∀ p j, ¬ (p = 15 ∧ j < 40) → ¬ (p = 169 ∧ (j = 0 ∨ j = 18)) → ¬ (p = 171 ∧ 787 ≤ j ∧ j < 827) → M p j = I p j) : br_Inv xs M L := by
  obtain ⟨N', R, hN', hR, eN', eR, a3, a4, a5⟩ := hI.1.2.1
  rw [Nat.zero_add] at eN' eR
  have eNN : N' = N := by
    rw [eN, nI_eq (by omega) (by omega)] at eN'; exact eN'.symm
  subst eNN
  refine br_Inv_w hI ⟨br_cel_x hI.1.1 (6, 0, 40, 787, 0, 5) (by decide +kernel) (fun p j h1 h2 h3 h4 h5 => ?_) (fun k h1 h2 h3 => ?_) (fun j hj => ?_), ⟨N', R, hN', hR, ?_, ?_, fun c hc => ?_, fun c h6 h7 => ?_, fun i hi => ?_⟩, ?_⟩ (fun p j hp => ?_)
  · simp only at h5
    exact hM p j (by omega) (by omega) (by omega)
  · simp only at h3
    rw [Nat.zero_add]; exact hM 171 k (by omega) (by omega) (by omega)
  · simp only at hj ⊢
    rw [Nat.zero_add, Nat.zero_add, h15 j hj, h171 j hj]
    refine ⟨rfl, ?_⟩
    rcases hw j with h | ⟨h, h2 | h2⟩
    · rw [h]
      have := bb_word hI.1.1 (j := j) hj
      rw [Nat.zero_add] at this; exact this
    · rw [h2]; exact by decide +kernel
    · rw [h2]; exact by decide +kernel
  · rw [Nat.zero_add, hM _ _ (by omega) (by omega) (by omega)]; exact eN'
  · rw [Nat.zero_add, hM _ _ (by omega) (by omega) (by omega)]; exact eR
  · obtain ⟨r, hr, e⟩ := a3 c hc
    rw [Nat.zero_add] at e
    exact ⟨r, hr, by rw [Nat.zero_add, hM _ _ (by omega) (by omega) (by omega)]; exact e⟩
  · obtain ⟨e1, e2, e3⟩ := a4 c h6 h7
    rw [Nat.zero_add] at e1 e2
    refine ⟨?_, ?_, fun t ht => ?_⟩
    · rw [Nat.zero_add, h171 c h7]
      rcases hw c with h | ⟨h, _⟩
      · rw [h]; exact e1
      · omega
    · rw [Nat.zero_add, hM _ _ (by omega) (by omega) (by omega)]; exact e2
    · rw [Nat.zero_add, hM _ _ (by omega) (by omega) (by omega)]
      have := e3 t ht
      rw [Nat.zero_add] at this; exact this
  · have := a5 i hi
    rw [Nat.zero_add] at this
    rw [Nat.zero_add, hM _ _ (by omega) (by omega) (by omega)]; exact this
  · exact br_ru_c hI.1.2.2 (hM _ _ (by omega) (by omega) (by omega)) (fun j => hM _ _ (by omega) (by omega) (by omega)) (fun k h1 h2 => hM _ _ (by omega) (by omega) (by omega))
  · unfold br_kO at hp
    exact hM p j (by omega) (by omega) (by omega)
theorem bp_deal (hI : br_Inv xs I L) (x1 x2 x3 : Int32) (hx1 : x1 = nI 0 ∨ x1 = nI 1) : br_pair n xs 89 231 [some (.ref 8), some (.int x1), some (.int x2), some (.int x3)] [some (.ref 169), some (.int x1), some (.int x2), some (.int x3), none] I L := by
  obtain ⟨N, R, hN, hR, eN, eR, a3, a4, a5⟩ := hI.1.2.1
  rw [Nat.zero_add] at eN eR
  have cN : I 9 8 = nI N := (bi_children hI.1.1).trans eN
  have cR : I 9 2 = nI R := (bi_rooms hI.1.1).trans eR
  by_cases h1 : 0 ≤ x2.toInt ∧ x2.toInt ≤ 40
  · by_cases h2 : R = 0
    · subst h2
      refine br_pair_no hI (k := 5) (by omega) (v := -(nI 5)) (fun d Q H => ?_) (fun d Q H => ?_)
      · repeat (first
          | exact H
          | (refine br_t ?_ ?_; (focus ((first | rfl | assumption | exact fun z => z rfl | omega | (simp (disch := omega) only [not_true_eq_false, not_false_eq_true, br_u_s, br_u_n, br_u_q, nI_eq, nI_clamp, nI_add, pk_mul, br_R17, br_S17, pk_sub_toInt, br_ltT, br_leT, br_inT, br_nT, br_negT, br_b_0, br_b_1, Int32.toInt_toInt64, pk_lT, br_lnegT, cR] <;> omega)); done)))
          | (refine br_f ?_ ?_; (focus ((first | rfl | assumption | exact fun z => z rfl | omega | (simp (disch := omega) only [not_true_eq_false, not_false_eq_true, br_u_s, br_u_n, br_u_q, nI_eq, nI_clamp, nI_add, pk_mul, br_R17, br_S17, pk_sub_toInt, br_ltT, br_leT, br_inT, br_nT, br_negT, br_b_0, br_b_1, Int32.toInt_toInt64, pk_lT, br_lnegT, cR] <;> omega)); done)))
          | refine rb_A_deal_0 ?_
          | refine rb_A_deal_7 ?_
          | refine rb_A_deal_15 ?_
          | refine rb_A_deal_31 ?_
          | refine rb_A_deal_45 ?_
          | refine rb_A_deal_57 ?_
          | refine rb_A_deal_64 ?_
          | (refine rs_out_F ?_ ?_; (focus ((first | rfl | assumption | exact fun z => z rfl | omega | (simp (disch := omega) only [not_true_eq_false, not_false_eq_true, br_u_s, br_u_n, br_u_q, nI_eq, nI_clamp, nI_add, pk_mul, br_R17, br_S17, pk_sub_toInt, br_ltT, br_leT, br_inT, br_nT, br_negT, br_b_0, br_b_1, Int32.toInt_toInt64, pk_lT, br_lnegT, cR] <;> omega)); done)))
          | (refine rs_out_T ?_ ?_; (focus ((first | rfl | assumption | exact fun z => z rfl | omega | (simp (disch := omega) only [not_true_eq_false, not_false_eq_true, br_u_s, br_u_n, br_u_q, nI_eq, nI_clamp, nI_add, pk_mul, br_R17, br_S17, pk_sub_toInt, br_ltT, br_leT, br_inT, br_nT, br_negT, br_b_0, br_b_1, Int32.toInt_toInt64, pk_lT, br_lnegT, cR] <;> omega)); done)))
          | (refine rs_noChild_F (N := N) ?_ ?_ ?_ ?_; (focus ((first | rfl | assumption | exact fun z => z rfl | omega | (simp (disch := omega) only [not_true_eq_false, not_false_eq_true, br_u_s, br_u_n, br_u_q, nI_eq, nI_clamp, nI_add, pk_mul, br_R17, br_S17, pk_sub_toInt, br_ltT, br_leT, br_inT, br_nT, br_negT, br_b_0, br_b_1, Int32.toInt_toInt64, pk_lT, br_lnegT, cR] <;> omega)); done)); (focus ((first | rfl | assumption | exact fun z => z rfl | omega | (simp (disch := omega) only [not_true_eq_false, not_false_eq_true, br_u_s, br_u_n, br_u_q, nI_eq, nI_clamp, nI_add, pk_mul, br_R17, br_S17, pk_sub_toInt, br_ltT, br_leT, br_inT, br_nT, br_negT, br_b_0, br_b_1, Int32.toInt_toInt64, pk_lT, br_lnegT, cR] <;> omega)); done)); (focus ((first | rfl | assumption | exact fun z => z rfl | omega | (simp (disch := omega) only [not_true_eq_false, not_false_eq_true, br_u_s, br_u_n, br_u_q, nI_eq, nI_clamp, nI_add, pk_mul, br_R17, br_S17, pk_sub_toInt, br_ltT, br_leT, br_inT, br_nT, br_negT, br_b_0, br_b_1, Int32.toInt_toInt64, pk_lT, br_lnegT, cR] <;> omega)); done)))
          | (refine rs_noChild_T (N := N) ?_ ?_ ?_ ?_; (focus ((first | rfl | assumption | exact fun z => z rfl | omega | (simp (disch := omega) only [not_true_eq_false, not_false_eq_true, br_u_s, br_u_n, br_u_q, nI_eq, nI_clamp, nI_add, pk_mul, br_R17, br_S17, pk_sub_toInt, br_ltT, br_leT, br_inT, br_nT, br_negT, br_b_0, br_b_1, Int32.toInt_toInt64, pk_lT, br_lnegT, cR] <;> omega)); done)); (focus ((first | rfl | assumption | exact fun z => z rfl | omega | (simp (disch := omega) only [not_true_eq_false, not_false_eq_true, br_u_s, br_u_n, br_u_q, nI_eq, nI_clamp, nI_add, pk_mul, br_R17, br_S17, pk_sub_toInt, br_ltT, br_leT, br_inT, br_nT, br_negT, br_b_0, br_b_1, Int32.toInt_toInt64, pk_lT, br_lnegT, cR] <;> omega)); done)); (focus ((first | rfl | assumption | exact fun z => z rfl | omega | (simp (disch := omega) only [not_true_eq_false, not_false_eq_true, br_u_s, br_u_n, br_u_q, nI_eq, nI_clamp, nI_add, pk_mul, br_R17, br_S17, pk_sub_toInt, br_ltT, br_leT, br_inT, br_nT, br_negT, br_b_0, br_b_1, Int32.toInt_toInt64, pk_lT, br_lnegT, cR] <;> omega)); done)))
          | (refine rs_noTest_F ?_ ?_; (focus ((first | rfl | assumption | exact fun z => z rfl | omega | (simp (disch := omega) only [not_true_eq_false, not_false_eq_true, br_u_s, br_u_n, br_u_q, nI_eq, nI_clamp, nI_add, pk_mul, br_R17, br_S17, pk_sub_toInt, br_ltT, br_leT, br_inT, br_nT, br_negT, br_b_0, br_b_1, Int32.toInt_toInt64, pk_lT, br_lnegT, cR] <;> omega)); done)))
          | (refine rs_noTest_T ?_ ?_; (focus ((first | rfl | assumption | exact fun z => z rfl | omega | (simp (disch := omega) only [not_true_eq_false, not_false_eq_true, br_u_s, br_u_n, br_u_q, nI_eq, nI_clamp, nI_add, pk_mul, br_R17, br_S17, pk_sub_toInt, br_ltT, br_leT, br_inT, br_nT, br_negT, br_b_0, br_b_1, Int32.toInt_toInt64, pk_lT, br_lnegT, cR] <;> omega)); done)))
          | (refine rs_refuse ?_ ?_; (focus ((first | rfl | assumption | exact fun z => z rfl | omega | (simp (disch := omega) only [not_true_eq_false, not_false_eq_true, br_u_s, br_u_n, br_u_q, nI_eq, nI_clamp, nI_add, pk_mul, br_R17, br_S17, pk_sub_toInt, br_ltT, br_leT, br_inT, br_nT, br_negT, br_b_0, br_b_1, Int32.toInt_toInt64, pk_lT, br_lnegT, cR] <;> omega)); done)))
          | (refine And.intro ?_ ?_; (focus ((first | rfl | assumption | exact fun z => z rfl | omega | (simp (disch := omega) only [not_true_eq_false, not_false_eq_true, br_u_s, br_u_n, br_u_q, nI_eq, nI_clamp, nI_add, pk_mul, br_R17, br_S17, pk_sub_toInt, br_ltT, br_leT, br_inT, br_nT, br_negT, br_b_0, br_b_1, Int32.toInt_toInt64, pk_lT, br_lnegT, cR] <;> omega)); done))))
      · repeat (first
          | exact H
          | (refine br_t ?_ ?_; (focus ((first | rfl | assumption | exact fun z => z rfl | omega | (simp (disch := omega) only [not_true_eq_false, not_false_eq_true, br_u_s, br_u_n, br_u_q, nI_eq, nI_clamp, nI_add, pk_mul, br_R17, br_S17, pk_sub_toInt, br_ltT, br_leT, br_inT, br_nT, br_negT, br_b_0, br_b_1, Int32.toInt_toInt64, pk_lT, br_lnegT, eR] <;> omega)); done)))
          | (refine br_f ?_ ?_; (focus ((first | rfl | assumption | exact fun z => z rfl | omega | (simp (disch := omega) only [not_true_eq_false, not_false_eq_true, br_u_s, br_u_n, br_u_q, nI_eq, nI_clamp, nI_add, pk_mul, br_R17, br_S17, pk_sub_toInt, br_ltT, br_leT, br_inT, br_nT, br_negT, br_b_0, br_b_1, Int32.toInt_toInt64, pk_lT, br_lnegT, eR] <;> omega)); done)))
          | refine rb_M_deal_0 ?_
          | refine rb_M_deal_14 ?_
          | refine rb_M_deal_23 ?_
          | refine rb_M_deal_41 ?_
          | (refine rs_wi_T ?_ ?_; (focus ((first | rfl | assumption | exact fun z => z rfl | omega | (simp (disch := omega) only [not_true_eq_false, not_false_eq_true, br_u_s, br_u_n, br_u_q, nI_eq, nI_clamp, nI_add, pk_mul, br_R17, br_S17, pk_sub_toInt, br_ltT, br_leT, br_inT, br_nT, br_negT, br_b_0, br_b_1, Int32.toInt_toInt64, pk_lT, br_lnegT, eR] <;> omega)); done)))
          | (refine rs_wi_F ?_ ?_; (focus ((first | rfl | assumption | exact fun z => z rfl | omega | (simp (disch := omega) only [not_true_eq_false, not_false_eq_true, br_u_s, br_u_n, br_u_q, nI_eq, nI_clamp, nI_add, pk_mul, br_R17, br_S17, pk_sub_toInt, br_ltT, br_leT, br_inT, br_nT, br_negT, br_b_0, br_b_1, Int32.toInt_toInt64, pk_lT, br_lnegT, eR] <;> omega)); done)))
          | (refine rs_isChild_T (N := N) ?_ ?_ ?_ ?_; (focus ((first | rfl | assumption | exact fun z => z rfl | omega | (simp (disch := omega) only [not_true_eq_false, not_false_eq_true, br_u_s, br_u_n, br_u_q, nI_eq, nI_clamp, nI_add, pk_mul, br_R17, br_S17, pk_sub_toInt, br_ltT, br_leT, br_inT, br_nT, br_negT, br_b_0, br_b_1, Int32.toInt_toInt64, pk_lT, br_lnegT, eR] <;> omega)); done)); (focus ((first | rfl | assumption | exact fun z => z rfl | omega | (simp (disch := omega) only [not_true_eq_false, not_false_eq_true, br_u_s, br_u_n, br_u_q, nI_eq, nI_clamp, nI_add, pk_mul, br_R17, br_S17, pk_sub_toInt, br_ltT, br_leT, br_inT, br_nT, br_negT, br_b_0, br_b_1, Int32.toInt_toInt64, pk_lT, br_lnegT, eR] <;> omega)); done)); (focus ((first | rfl | assumption | exact fun z => z rfl | omega | (simp (disch := omega) only [not_true_eq_false, not_false_eq_true, br_u_s, br_u_n, br_u_q, nI_eq, nI_clamp, nI_add, pk_mul, br_R17, br_S17, pk_sub_toInt, br_ltT, br_leT, br_inT, br_nT, br_negT, br_b_0, br_b_1, Int32.toInt_toInt64, pk_lT, br_lnegT, eR] <;> omega)); done)))
          | (refine rs_isChild_F (N := N) ?_ ?_ ?_ ?_; (focus ((first | rfl | assumption | exact fun z => z rfl | omega | (simp (disch := omega) only [not_true_eq_false, not_false_eq_true, br_u_s, br_u_n, br_u_q, nI_eq, nI_clamp, nI_add, pk_mul, br_R17, br_S17, pk_sub_toInt, br_ltT, br_leT, br_inT, br_nT, br_negT, br_b_0, br_b_1, Int32.toInt_toInt64, pk_lT, br_lnegT, eR] <;> omega)); done)); (focus ((first | rfl | assumption | exact fun z => z rfl | omega | (simp (disch := omega) only [not_true_eq_false, not_false_eq_true, br_u_s, br_u_n, br_u_q, nI_eq, nI_clamp, nI_add, pk_mul, br_R17, br_S17, pk_sub_toInt, br_ltT, br_leT, br_inT, br_nT, br_negT, br_b_0, br_b_1, Int32.toInt_toInt64, pk_lT, br_lnegT, eR] <;> omega)); done)); (focus ((first | rfl | assumption | exact fun z => z rfl | omega | (simp (disch := omega) only [not_true_eq_false, not_false_eq_true, br_u_s, br_u_n, br_u_q, nI_eq, nI_clamp, nI_add, pk_mul, br_R17, br_S17, pk_sub_toInt, br_ltT, br_leT, br_inT, br_nT, br_negT, br_b_0, br_b_1, Int32.toInt_toInt64, pk_lT, br_lnegT, eR] <;> omega)); done)))
          | (refine rs_isTest_T ?_ ?_; (focus ((first | rfl | assumption | exact fun z => z rfl | omega | (simp (disch := omega) only [not_true_eq_false, not_false_eq_true, br_u_s, br_u_n, br_u_q, nI_eq, nI_clamp, nI_add, pk_mul, br_R17, br_S17, pk_sub_toInt, br_ltT, br_leT, br_inT, br_nT, br_negT, br_b_0, br_b_1, Int32.toInt_toInt64, pk_lT, br_lnegT, eR] <;> omega)); done)))
          | (refine rs_isTest_F ?_ ?_; (focus ((first | rfl | assumption | exact fun z => z rfl | omega | (simp (disch := omega) only [not_true_eq_false, not_false_eq_true, br_u_s, br_u_n, br_u_q, nI_eq, nI_clamp, nI_add, pk_mul, br_R17, br_S17, pk_sub_toInt, br_ltT, br_leT, br_inT, br_nT, br_negT, br_b_0, br_b_1, Int32.toInt_toInt64, pk_lT, br_lnegT, eR] <;> omega)); done)))
          | (refine rs_no ?_ ?_; (focus ((first | rfl | assumption | exact fun z => z rfl | omega | (simp (disch := omega) only [not_true_eq_false, not_false_eq_true, br_u_s, br_u_n, br_u_q, nI_eq, nI_clamp, nI_add, pk_mul, br_R17, br_S17, pk_sub_toInt, br_ltT, br_leT, br_inT, br_nT, br_negT, br_b_0, br_b_1, Int32.toInt_toInt64, pk_lT, br_lnegT, eR] <;> omega)); done)))
          | (refine rs_pointOf ?_ ?_ ?_; (focus ((first | rfl | assumption | exact fun z => z rfl | omega | (simp (disch := omega) only [not_true_eq_false, not_false_eq_true, br_u_s, br_u_n, br_u_q, nI_eq, nI_clamp, nI_add, pk_mul, br_R17, br_S17, pk_sub_toInt, br_ltT, br_leT, br_inT, br_nT, br_negT, br_b_0, br_b_1, Int32.toInt_toInt64, pk_lT, br_lnegT, eR] <;> omega)); done)); (focus ((first | rfl | assumption | exact fun z => z rfl | omega | (simp (disch := omega) only [not_true_eq_false, not_false_eq_true, br_u_s, br_u_n, br_u_q, nI_eq, nI_clamp, nI_add, pk_mul, br_R17, br_S17, pk_sub_toInt, br_ltT, br_leT, br_inT, br_nT, br_negT, br_b_0, br_b_1, Int32.toInt_toInt64, pk_lT, br_lnegT, eR] <;> omega)); done)))
          | (refine And.intro ?_ ?_; (focus ((first | rfl | assumption | exact fun z => z rfl | omega | (simp (disch := omega) only [not_true_eq_false, not_false_eq_true, br_u_s, br_u_n, br_u_q, nI_eq, nI_clamp, nI_add, pk_mul, br_R17, br_S17, pk_sub_toInt, br_ltT, br_leT, br_inT, br_nT, br_negT, br_b_0, br_b_1, Int32.toInt_toInt64, pk_lT, br_lnegT, eR] <;> omega)); done))))
    · obtain ⟨m, em, hm⟩ := br_nN h1.1
      subst em
      have e12 : ∀ c, c < 40 → I 12 c = I 171 (667 + c) := fun c hc => bi_room hI.1.1 hc
      have e16 : ∀ c, c < 40 → I 16 c = I 171 (827 + c) := fun c hc => bi_gone hI.1.1 hc
      have A0 : bd_A I (fun c => I 171 (787 + c)) I := ⟨fun _ _ _ => rfl, fun c hc => bi_word hI.1.1 hc⟩
      have fin : ∀ (d : Nat) (Q : br_Q) (w : Nat → Int32) (J : Nat → Nat → Int32), bd_A I w J → (∀ c, w c = I 171 (787 + c) ∨ (c < N ∧ (w c = nI 0 ∨ w c = nI 1))) →
          (∀ v I1 L1, (∀ j, I1 1 j = I 1 j) → (∀ (d' : Nat) (Q' : br_Q), (∀ I2 L2, br_Inv xs I2 L2 → Q' (some (.int v)) (br_hp n I2 L2)) → br_r (d' + 80) 231 0 [some (.ref 169), some (.int x1), some (.int (nI m)), some (.int x3), none] [] (br_hp n I1 L1) Q') → Q (some (.int v)) (br_hp n I1 L1)) →
          (∀ (d' : Nat) (Q' : br_Q), (∀ M, bd_M (br_u (br_u J 169 0 (nI 0)) 169 18 x3) w M → Q' (some (.int (nI (bm_cnt (fun c => decide (w c = nI 1)) N)))) (br_hp n M L)) → br_r (d' + 80) 231 0 [some (.ref 169), some (.int x1), some (.int (nI m)), some (.int x3), none] [] (br_hp n J L) Q') →
          br_r (d + 80) 89 57 [some (.ref 8), some (.int x1), some (.int (nI m)), some (.int x3)] [] (br_hp n J L) Q := by
        intro d Q w J hA hw K hM
        refine rb_A_deal_57 (rs_W_named (by rw [hA.1 9 8 (by omega)]; exact cN) hN (rb_A_deal_64 ?_))
        rw [bm_cnt_c (q := fun c => decide (w c = nI 1)) N (fun c hc => by rw [hA.2 c (by omega)])]
        refine K _ J L (fun j => hA.1 1 j (by omega)) (fun d' Q' k' => hM d' Q' (fun M hMM => k' M L (br_Inv_wd hI hN eN hw (fun c hc => ?_) hMM.2 (fun p j q1 q2 q3 => ?_))))
        · rw [hMM.1 15 c (by omega) (by omega), br_u_n (by omega), br_u_n (by omega)]; exact hA.2 c hc
        · rw [hMM.1 p j (by omega) (by omega), br_u_n (by omega), br_u_n (by omega)]; exact hA.1 p j q1
      have m0 : ∀ J, (∀ p j, ¬ (p = 15 ∧ j < 40) → J p j = I p j) → bd_M (br_u (br_u J 169 0 (nI 0)) 169 18 x3) (fun c => I 171 (787 + c)) (br_u (br_u J 169 0 (nI 0)) 169 18 x3) := fun J hJ => ⟨fun _ _ _ _ => rfl, fun c hc => by rw [br_u_n (by omega), br_u_n (by omega)]; exact hJ 171 _ (by omega)⟩
      have g171 : ∀ J : Nat → Nat → Int32, (∀ p j, ¬ (p = 15 ∧ j < 40) → J p j = I p j) → br_u (br_u J 169 0 (nI 0)) 169 18 x3 171 = I 171 := fun J hJ => by
        rw [br_u_q (by omega), br_u_q (by omega)]; funext j; exact hJ 171 j (by omega)
      have t2 : 0 ≤ (nI m).toInt ∧ (nI m).toInt ≤ 40 := h1
      intro d Q K
      refine rb_A_deal_0 (rs_out_F ?_ (rb_A_deal_7 (br_t rfl ?_)))
      · rw [nI_toInt (show 0 < 2 ^ 31 by omega), nI_toInt (show 40 < 2 ^ 31 by omega)]; exact h1
      rw [cR]
      refine br_t (nI_ne0 (by omega) (by omega)) ?_
      rcases hx1 with rfl | rfl
      · refine ⟨fun _ => rs_W_dealCh hN hR (by omega) cN cR e12 e16 A0 (fun J hA => fin d Q _ J hA (fun c => bd_R_v c R) K (fun d' Q' k' => rb_M_deal_0 (rs_wi_T ?_ (rb_M_deal_14 (br_t br_10 ?_))))), fun z => absurd rfl z⟩
        · rw [pk_lT (by omega), pk_lT (by omega), Int32.toInt_toInt64]; exact h1
        rw [br_u_n (by omega), hA.1 171 629 (by omega), eR]
        refine br_t (nI_ne0 (by omega) (by omega)) (br_t rfl (rs_M_dealCh (g := I 171) hN hR (by omega) (g171 J hA.1) eN eR (m0 J hA.1) br_u_s k'))
      · refine ⟨fun z => absurd z br_10, fun _ => rs_W_dealRo hN hR (by omega) cN cR e12 e16 A0 (fun J hA => rb_A_deal_45 (fin d Q _ J hA (fun c => bd_Q_v c R) K (fun d' Q' k' => rb_M_deal_0 (rs_wi_T ?_ (rb_M_deal_14 (br_t br_10 ?_))))))⟩
        · rw [pk_lT (by omega), pk_lT (by omega), Int32.toInt_toInt64]; exact h1
        rw [br_u_n (by omega), hA.1 171 629 (by omega), eR]
        refine br_t (nI_ne0 (by omega) (by omega)) (br_f br_10 (rs_M_dealRo (g := I 171) hN hR (by omega) (g171 J hA.1) eN eR (m0 J hA.1) br_u_s (fun M hM => rb_M_deal_56 (rb_M_deal_59 ?_))))
        have e2 : bm_cnt (fun c => decide (M 171 (787 + c) = nI 1)) N = bm_cnt (fun c => decide ((bd_Q (I 171) N R (m, x3, fun c => I 171 (787 + c)) R).2.2 c = nI 1)) N := bm_cnt_c N (fun c hc => by rw [hM.2 c (by omega)])
        have fin3 := k' M hM
        rw [← e2] at fin3
        have fin2 := rs_M_named (d := d' + 79) (n := n) (Q := fun v h => br_r (d' + 80) 231 93 [some (.ref 169), some (.int (nI 1)), some (.int (nI m)), br_kl (some (.int x3)), some (.int (nI 0))] (v.toList ++ []) (br_bk h) Q') (L := L) (I := M) (g := M 171) (N := N) (z1 := none) (z2 := none) rfl (by rw [bd_Mg (g171 J hA.1) hM (by omega), eN]) hN (rb_M_deal_93 fin3)
        exact ⟨fun _ => fin2, fun _ => ⟨fun _ => fin2, fun z => absurd br_10 z⟩⟩
  · refine br_pair_no hI (k := 3) (by omega) (v := -(nI 3)) (fun d Q H => ?_) (fun d Q H => ?_)
    · repeat (first
        | exact H
        | (refine br_t ?_ ?_; (focus ((first | rfl | assumption | exact fun z => z rfl | omega | (simp (disch := omega) only [not_true_eq_false, not_false_eq_true, br_u_s, br_u_n, br_u_q, nI_eq, nI_clamp, nI_add, pk_mul, br_R17, br_S17, pk_sub_toInt, br_ltT, br_leT, br_inT, br_nT, br_negT, br_b_0, br_b_1, Int32.toInt_toInt64, pk_lT, br_lnegT, cR] <;> omega)); done)))
        | (refine br_f ?_ ?_; (focus ((first | rfl | assumption | exact fun z => z rfl | omega | (simp (disch := omega) only [not_true_eq_false, not_false_eq_true, br_u_s, br_u_n, br_u_q, nI_eq, nI_clamp, nI_add, pk_mul, br_R17, br_S17, pk_sub_toInt, br_ltT, br_leT, br_inT, br_nT, br_negT, br_b_0, br_b_1, Int32.toInt_toInt64, pk_lT, br_lnegT, cR] <;> omega)); done)))
        | refine rb_A_deal_0 ?_
        | refine rb_A_deal_7 ?_
        | refine rb_A_deal_15 ?_
        | refine rb_A_deal_31 ?_
        | refine rb_A_deal_45 ?_
        | refine rb_A_deal_57 ?_
        | refine rb_A_deal_64 ?_
        | (refine rs_out_F ?_ ?_; (focus ((first | rfl | assumption | exact fun z => z rfl | omega | (simp (disch := omega) only [not_true_eq_false, not_false_eq_true, br_u_s, br_u_n, br_u_q, nI_eq, nI_clamp, nI_add, pk_mul, br_R17, br_S17, pk_sub_toInt, br_ltT, br_leT, br_inT, br_nT, br_negT, br_b_0, br_b_1, Int32.toInt_toInt64, pk_lT, br_lnegT, cR] <;> omega)); done)))
        | (refine rs_out_T ?_ ?_; (focus ((first | rfl | assumption | exact fun z => z rfl | omega | (simp (disch := omega) only [not_true_eq_false, not_false_eq_true, br_u_s, br_u_n, br_u_q, nI_eq, nI_clamp, nI_add, pk_mul, br_R17, br_S17, pk_sub_toInt, br_ltT, br_leT, br_inT, br_nT, br_negT, br_b_0, br_b_1, Int32.toInt_toInt64, pk_lT, br_lnegT, cR] <;> omega)); done)))
        | (refine rs_noChild_F (N := N) ?_ ?_ ?_ ?_; (focus ((first | rfl | assumption | exact fun z => z rfl | omega | (simp (disch := omega) only [not_true_eq_false, not_false_eq_true, br_u_s, br_u_n, br_u_q, nI_eq, nI_clamp, nI_add, pk_mul, br_R17, br_S17, pk_sub_toInt, br_ltT, br_leT, br_inT, br_nT, br_negT, br_b_0, br_b_1, Int32.toInt_toInt64, pk_lT, br_lnegT, cR] <;> omega)); done)); (focus ((first | rfl | assumption | exact fun z => z rfl | omega | (simp (disch := omega) only [not_true_eq_false, not_false_eq_true, br_u_s, br_u_n, br_u_q, nI_eq, nI_clamp, nI_add, pk_mul, br_R17, br_S17, pk_sub_toInt, br_ltT, br_leT, br_inT, br_nT, br_negT, br_b_0, br_b_1, Int32.toInt_toInt64, pk_lT, br_lnegT, cR] <;> omega)); done)); (focus ((first | rfl | assumption | exact fun z => z rfl | omega | (simp (disch := omega) only [not_true_eq_false, not_false_eq_true, br_u_s, br_u_n, br_u_q, nI_eq, nI_clamp, nI_add, pk_mul, br_R17, br_S17, pk_sub_toInt, br_ltT, br_leT, br_inT, br_nT, br_negT, br_b_0, br_b_1, Int32.toInt_toInt64, pk_lT, br_lnegT, cR] <;> omega)); done)))
        | (refine rs_noChild_T (N := N) ?_ ?_ ?_ ?_; (focus ((first | rfl | assumption | exact fun z => z rfl | omega | (simp (disch := omega) only [not_true_eq_false, not_false_eq_true, br_u_s, br_u_n, br_u_q, nI_eq, nI_clamp, nI_add, pk_mul, br_R17, br_S17, pk_sub_toInt, br_ltT, br_leT, br_inT, br_nT, br_negT, br_b_0, br_b_1, Int32.toInt_toInt64, pk_lT, br_lnegT, cR] <;> omega)); done)); (focus ((first | rfl | assumption | exact fun z => z rfl | omega | (simp (disch := omega) only [not_true_eq_false, not_false_eq_true, br_u_s, br_u_n, br_u_q, nI_eq, nI_clamp, nI_add, pk_mul, br_R17, br_S17, pk_sub_toInt, br_ltT, br_leT, br_inT, br_nT, br_negT, br_b_0, br_b_1, Int32.toInt_toInt64, pk_lT, br_lnegT, cR] <;> omega)); done)); (focus ((first | rfl | assumption | exact fun z => z rfl | omega | (simp (disch := omega) only [not_true_eq_false, not_false_eq_true, br_u_s, br_u_n, br_u_q, nI_eq, nI_clamp, nI_add, pk_mul, br_R17, br_S17, pk_sub_toInt, br_ltT, br_leT, br_inT, br_nT, br_negT, br_b_0, br_b_1, Int32.toInt_toInt64, pk_lT, br_lnegT, cR] <;> omega)); done)))
        | (refine rs_noTest_F ?_ ?_; (focus ((first | rfl | assumption | exact fun z => z rfl | omega | (simp (disch := omega) only [not_true_eq_false, not_false_eq_true, br_u_s, br_u_n, br_u_q, nI_eq, nI_clamp, nI_add, pk_mul, br_R17, br_S17, pk_sub_toInt, br_ltT, br_leT, br_inT, br_nT, br_negT, br_b_0, br_b_1, Int32.toInt_toInt64, pk_lT, br_lnegT, cR] <;> omega)); done)))
        | (refine rs_noTest_T ?_ ?_; (focus ((first | rfl | assumption | exact fun z => z rfl | omega | (simp (disch := omega) only [not_true_eq_false, not_false_eq_true, br_u_s, br_u_n, br_u_q, nI_eq, nI_clamp, nI_add, pk_mul, br_R17, br_S17, pk_sub_toInt, br_ltT, br_leT, br_inT, br_nT, br_negT, br_b_0, br_b_1, Int32.toInt_toInt64, pk_lT, br_lnegT, cR] <;> omega)); done)))
        | (refine rs_refuse ?_ ?_; (focus ((first | rfl | assumption | exact fun z => z rfl | omega | (simp (disch := omega) only [not_true_eq_false, not_false_eq_true, br_u_s, br_u_n, br_u_q, nI_eq, nI_clamp, nI_add, pk_mul, br_R17, br_S17, pk_sub_toInt, br_ltT, br_leT, br_inT, br_nT, br_negT, br_b_0, br_b_1, Int32.toInt_toInt64, pk_lT, br_lnegT, cR] <;> omega)); done)))
        | (refine And.intro ?_ ?_; (focus ((first | rfl | assumption | exact fun z => z rfl | omega | (simp (disch := omega) only [not_true_eq_false, not_false_eq_true, br_u_s, br_u_n, br_u_q, nI_eq, nI_clamp, nI_add, pk_mul, br_R17, br_S17, pk_sub_toInt, br_ltT, br_leT, br_inT, br_nT, br_negT, br_b_0, br_b_1, Int32.toInt_toInt64, pk_lT, br_lnegT, cR] <;> omega)); done))))
    · repeat (first
        | exact H
        | (refine br_t ?_ ?_; (focus ((first | rfl | assumption | exact fun z => z rfl | omega | (simp (disch := omega) only [not_true_eq_false, not_false_eq_true, br_u_s, br_u_n, br_u_q, nI_eq, nI_clamp, nI_add, pk_mul, br_R17, br_S17, pk_sub_toInt, br_ltT, br_leT, br_inT, br_nT, br_negT, br_b_0, br_b_1, Int32.toInt_toInt64, pk_lT, br_lnegT, eR] <;> omega)); done)))
        | (refine br_f ?_ ?_; (focus ((first | rfl | assumption | exact fun z => z rfl | omega | (simp (disch := omega) only [not_true_eq_false, not_false_eq_true, br_u_s, br_u_n, br_u_q, nI_eq, nI_clamp, nI_add, pk_mul, br_R17, br_S17, pk_sub_toInt, br_ltT, br_leT, br_inT, br_nT, br_negT, br_b_0, br_b_1, Int32.toInt_toInt64, pk_lT, br_lnegT, eR] <;> omega)); done)))
        | refine rb_M_deal_0 ?_
        | refine rb_M_deal_14 ?_
        | refine rb_M_deal_23 ?_
        | refine rb_M_deal_41 ?_
        | (refine rs_wi_T ?_ ?_; (focus ((first | rfl | assumption | exact fun z => z rfl | omega | (simp (disch := omega) only [not_true_eq_false, not_false_eq_true, br_u_s, br_u_n, br_u_q, nI_eq, nI_clamp, nI_add, pk_mul, br_R17, br_S17, pk_sub_toInt, br_ltT, br_leT, br_inT, br_nT, br_negT, br_b_0, br_b_1, Int32.toInt_toInt64, pk_lT, br_lnegT, eR] <;> omega)); done)))
        | (refine rs_wi_F ?_ ?_; (focus ((first | rfl | assumption | exact fun z => z rfl | omega | (simp (disch := omega) only [not_true_eq_false, not_false_eq_true, br_u_s, br_u_n, br_u_q, nI_eq, nI_clamp, nI_add, pk_mul, br_R17, br_S17, pk_sub_toInt, br_ltT, br_leT, br_inT, br_nT, br_negT, br_b_0, br_b_1, Int32.toInt_toInt64, pk_lT, br_lnegT, eR] <;> omega)); done)))
        | (refine rs_isChild_T (N := N) ?_ ?_ ?_ ?_; (focus ((first | rfl | assumption | exact fun z => z rfl | omega | (simp (disch := omega) only [not_true_eq_false, not_false_eq_true, br_u_s, br_u_n, br_u_q, nI_eq, nI_clamp, nI_add, pk_mul, br_R17, br_S17, pk_sub_toInt, br_ltT, br_leT, br_inT, br_nT, br_negT, br_b_0, br_b_1, Int32.toInt_toInt64, pk_lT, br_lnegT, eR] <;> omega)); done)); (focus ((first | rfl | assumption | exact fun z => z rfl | omega | (simp (disch := omega) only [not_true_eq_false, not_false_eq_true, br_u_s, br_u_n, br_u_q, nI_eq, nI_clamp, nI_add, pk_mul, br_R17, br_S17, pk_sub_toInt, br_ltT, br_leT, br_inT, br_nT, br_negT, br_b_0, br_b_1, Int32.toInt_toInt64, pk_lT, br_lnegT, eR] <;> omega)); done)); (focus ((first | rfl | assumption | exact fun z => z rfl | omega | (simp (disch := omega) only [not_true_eq_false, not_false_eq_true, br_u_s, br_u_n, br_u_q, nI_eq, nI_clamp, nI_add, pk_mul, br_R17, br_S17, pk_sub_toInt, br_ltT, br_leT, br_inT, br_nT, br_negT, br_b_0, br_b_1, Int32.toInt_toInt64, pk_lT, br_lnegT, eR] <;> omega)); done)))
        | (refine rs_isChild_F (N := N) ?_ ?_ ?_ ?_; (focus ((first | rfl | assumption | exact fun z => z rfl | omega | (simp (disch := omega) only [not_true_eq_false, not_false_eq_true, br_u_s, br_u_n, br_u_q, nI_eq, nI_clamp, nI_add, pk_mul, br_R17, br_S17, pk_sub_toInt, br_ltT, br_leT, br_inT, br_nT, br_negT, br_b_0, br_b_1, Int32.toInt_toInt64, pk_lT, br_lnegT, eR] <;> omega)); done)); (focus ((first | rfl | assumption | exact fun z => z rfl | omega | (simp (disch := omega) only [not_true_eq_false, not_false_eq_true, br_u_s, br_u_n, br_u_q, nI_eq, nI_clamp, nI_add, pk_mul, br_R17, br_S17, pk_sub_toInt, br_ltT, br_leT, br_inT, br_nT, br_negT, br_b_0, br_b_1, Int32.toInt_toInt64, pk_lT, br_lnegT, eR] <;> omega)); done)); (focus ((first | rfl | assumption | exact fun z => z rfl | omega | (simp (disch := omega) only [not_true_eq_false, not_false_eq_true, br_u_s, br_u_n, br_u_q, nI_eq, nI_clamp, nI_add, pk_mul, br_R17, br_S17, pk_sub_toInt, br_ltT, br_leT, br_inT, br_nT, br_negT, br_b_0, br_b_1, Int32.toInt_toInt64, pk_lT, br_lnegT, eR] <;> omega)); done)))
        | (refine rs_isTest_T ?_ ?_; (focus ((first | rfl | assumption | exact fun z => z rfl | omega | (simp (disch := omega) only [not_true_eq_false, not_false_eq_true, br_u_s, br_u_n, br_u_q, nI_eq, nI_clamp, nI_add, pk_mul, br_R17, br_S17, pk_sub_toInt, br_ltT, br_leT, br_inT, br_nT, br_negT, br_b_0, br_b_1, Int32.toInt_toInt64, pk_lT, br_lnegT, eR] <;> omega)); done)))
        | (refine rs_isTest_F ?_ ?_; (focus ((first | rfl | assumption | exact fun z => z rfl | omega | (simp (disch := omega) only [not_true_eq_false, not_false_eq_true, br_u_s, br_u_n, br_u_q, nI_eq, nI_clamp, nI_add, pk_mul, br_R17, br_S17, pk_sub_toInt, br_ltT, br_leT, br_inT, br_nT, br_negT, br_b_0, br_b_1, Int32.toInt_toInt64, pk_lT, br_lnegT, eR] <;> omega)); done)))
        | (refine rs_no ?_ ?_; (focus ((first | rfl | assumption | exact fun z => z rfl | omega | (simp (disch := omega) only [not_true_eq_false, not_false_eq_true, br_u_s, br_u_n, br_u_q, nI_eq, nI_clamp, nI_add, pk_mul, br_R17, br_S17, pk_sub_toInt, br_ltT, br_leT, br_inT, br_nT, br_negT, br_b_0, br_b_1, Int32.toInt_toInt64, pk_lT, br_lnegT, eR] <;> omega)); done)))
        | (refine rs_pointOf ?_ ?_ ?_; (focus ((first | rfl | assumption | exact fun z => z rfl | omega | (simp (disch := omega) only [not_true_eq_false, not_false_eq_true, br_u_s, br_u_n, br_u_q, nI_eq, nI_clamp, nI_add, pk_mul, br_R17, br_S17, pk_sub_toInt, br_ltT, br_leT, br_inT, br_nT, br_negT, br_b_0, br_b_1, Int32.toInt_toInt64, pk_lT, br_lnegT, eR] <;> omega)); done)); (focus ((first | rfl | assumption | exact fun z => z rfl | omega | (simp (disch := omega) only [not_true_eq_false, not_false_eq_true, br_u_s, br_u_n, br_u_q, nI_eq, nI_clamp, nI_add, pk_mul, br_R17, br_S17, pk_sub_toInt, br_ltT, br_leT, br_inT, br_nT, br_negT, br_b_0, br_b_1, Int32.toInt_toInt64, pk_lT, br_lnegT, eR] <;> omega)); done)))
        | (refine And.intro ?_ ?_; (focus ((first | rfl | assumption | exact fun z => z rfl | omega | (simp (disch := omega) only [not_true_eq_false, not_false_eq_true, br_u_s, br_u_n, br_u_q, nI_eq, nI_clamp, nI_add, pk_mul, br_R17, br_S17, pk_sub_toInt, br_ltT, br_leT, br_inT, br_nT, br_negT, br_b_0, br_b_1, Int32.toInt_toInt64, pk_lT, br_lnegT, eR] <;> omega)); done))))
end
