set_option maxRecDepth 100000
set_option maxHeartbeats 4000000
/-! the class reads a law -/
theorem pt_k_t {k N : Nat} {ts t1 : List tk_T} (h : pt_k k N ts = .inr t1) : t1 = ts.tail ∧ (tk_hd N ts).1 = k := by
  by_cases e : (tk_hd N ts).1 = k
  · rw [pt_k_T e] at h; exact ⟨(Sum.inr.inj h).symm, e⟩
  · rw [pt_k_F e] at h; cases h
theorem pt_n_t {lo hi N : Nat} {ts : List tk_T} {x : Nat × List tk_T} (h : pt_n lo hi N ts = .inr x) : x.2 = ts.tail ∧ (tk_hd N ts).1 = 41 := by
  by_cases h1 : (tk_hd N ts).1 = 41
  · by_cases h2 : lo ≤ (tk_hd N ts).2.2 ∧ (tk_hd N ts).2.2 ≤ hi
    · rw [pt_n_T h1 h2] at h
      rw [← Sum.inr.inj h]; exact ⟨rfl, h1⟩
    · rw [pt_n_B h1 h2] at h; cases h
  · rw [pt_n_F h1] at h; cases h
theorem pl_most : ∀ k, k < 7 → br_mostL.getD k 0 = nI (pl_mx (k + 11)) := by decide +kernel
def fL (I J : Nat → Nat → Int32) : Prop := ∀ p j, ¬ (p = 54 ∧ 3 ≤ j ∧ j ≤ 5) → ¬ (p = 55 ∧ 7 ≤ j ∧ j ≤ 10) → p ≠ 61 → J p j = I p j
section
variable {d n : Nat} {Q : br_Q} {I J : Nat → Nat → Int32} {L : Nat → Nat → Int64} {T ts : List tk_T} {N : Nat}
theorem fC_L (h : fC I J) : fL I J := fun p j a b _ => h p j a b
theorem fL_t {K : Nat → Nat → Int32} (h : fL I J) (h2 : fL J K) : fL I K := fun p j a b c => by rw [h2 p j a b c, h p j a b c]
def pl_C (g : Nat → Int32) (J : Nat → Nat → Int32) : Prop := ∀ j, j < 18 → J 61 j = g j
theorem pl_C_c {g : Nat → Int32} (h : pl_C g I) (h2 : fC I J) : pl_C g J := fun j hj => by rw [h2 61 j (by omega) (by omega)]; exact h j hj
theorem rs_R_sets {w : Nat} {v : Int32} {g : Nat → Int32} (hw : w < 18) (h : pl_C g I) (H : ∀ J, (∀ p j, p ≠ 61 → J p j = I p j) → pl_C (br_v g w v) J → Q (some (.int (nI 1))) (br_hp n J L)) : br_r d 68 0 [some (.ref 54), some (.int (nI w)), some (.int v)] [] (br_hp n I L) Q := by
  refine rb_Reader_sets_0 (br_f (nI_pos (by omega)) (br_f (nI_ge (b := 18) hw (by omega)) ?_))
  rw [nI_clamp (by omega)]
  refine ⟨vp_in_nI hw (by omega), H _ (fun p j hp => br_u_n (by omega)) (fun j hj => ?_)⟩
  by_cases e : j = w
  · subst e; rw [br_u_s, br_v_s]
  · rw [br_u_n (by omega), br_v_j e]; exact h j hj
theorem rs_R_line {w : Nat} {g : Nat → Int32} {z1 : Option Value} (ho : br_odx I) (h : tk_C T N ts I) (hs : tk_sm ts) (hw : (tk_hd N ts).1 = w) (hb : pl_bad w = false) (hg : pl_C g I)
    (H0 : ∀ f, pl_line N w ts.tail g = .inl f → ∀ J, fL I J → pt_f f J → Q (some (.int (nI 0))) (br_hp n J L))
    (H1 : ∀ y, pl_line N w ts.tail g = .inr y → ∀ J, fL I J → (∀ j, j < 5 → J 54 j = I 54 j) → tk_C T N y.1 J → tk_sm y.1 → pl_C y.2 J → Q (some (.int (nI 1))) (br_hp n J L)) :
    br_r (d + 3) 64 0 [some (.ref 54), z1] [] (br_hp n I L) Q := by
  have hw2 := of_decide_eq_false hb
  have a9 := h.2.2.2.2.2.2.1
  obtain ⟨t, r, ets⟩ := tk_hd_c hw (by omega)
  have hs1 := tk_sm_t hs
  refine rb_Reader_takesLine_0 ?_
  rw [a9, hw]
  rw [ets] at h
  refine rs_T_adv h (fun J1 f1 C1 => rb_Reader_takesLine_15 ?_)
  have fr1 : fC I J1 := fun p j q1 q2 => f1 p j (by omega)
  have s1 : ∀ j, j < 5 → J1 54 j = I 54 j := fun j hj => f1 54 j (by omega)
  have g1 : pl_C g J1 := pl_C_c hg fr1
  have er : ts.tail = r := by rw [ets]; rfl
  rw [er] at H0 H1 hs1
  unfold pl_line at H0 H1
  rw [nI_leI (by omega) (by omega), nI_leI (by omega) (by omega)]
  refine ⟨fun h5 => ⟨fun h8 => ?_, fun h8 => ?_⟩, fun h5 => ?_⟩
  · -- a number for itself
    rw [if_neg (by omega), if_neg (by omega)] at H0 H1
    rw [pk_sub (by omega)]
    refine rs_at_in (l := 17) rfl (show w - 11 < 17 by omega) (by omega) ?_
    have e2 : J1 2 (w - 11) = nI (pl_mx w) := by
      rw [f1 2 _ (by omega), ho.1, pl_most (w - 11) (by omega), show w - 11 + 11 = w by omega]
    have mx : pl_mx w ≤ 200 := by unfold pl_mx; repeat' split
                                  all_goals omega
    rw [e2]
    refine rb_Reader_takesLine_52 (rs_R_number (by omega) (by omega) C1 hs1 (fun f hf J2 f2 hfl => rb_Reader_takesLine_55 (br_t rfl (H0 f (sb_l hf) J2 (fL_t (fC_L fr1) (fC_L f2)) hfl))) (fun x hx J2 f2 s2 C2 h54 => rb_Reader_takesLine_55 (br_f br_10 ?_)))
    rw [h54]
    refine rs_R_sets (by omega) (pl_C_c g1 f2) (fun J3 f3 g3 => rb_Reader_takesLine_67 (br_f br_10 (H1 _ (sb_r hx) J3 ?_ ?_ ?_ ?_ g3)))
    · exact fun p j q1 q2 q3 => by rw [f3 p j q3, f2 p j q1 q2, fr1 p j q1 q2]
    · exact fun j hj => by rw [f3 54 j (by omega), s2 j hj, s1 j hj]
    · exact tk_C_c C2 (fun p j q => f3 p j (by omega))
    · show tk_sm x.2
      rw [(pt_n_t hx).1]; exact tk_sm_t hs1
  · -- a way
    rw [if_neg (by omega), if_pos (by omega)] at H0 H1
    rw [pk_sub (by omega)]
    refine rb_Reader_takesWay_0 (rs_R_takes (by omega) (by omega) C1 hs1 (fun f hf J2 f2 hfl => rb_Reader_takesWay_6 (br_t rfl (rb_Reader_takesLine_39 ⟨Or.inl rfl, H0 f (sb_l hf) J2 (fL_t (fC_L fr1) (fC_L f2)) hfl⟩))) (fun t1 ht1 J2 f2 s2 C2 => rb_Reader_takesWay_6 (br_f br_10 ?_)))
    rw [sb_r ht1] at H0 H1
    have hs2 : tk_sm t1 := by rw [(pt_k_t ht1).1]; exact tk_sm_t hs1
    have L2 := fL_t (fC_L fr1) (fC_L f2)
    refine rs_R_number (by omega) (by omega) C2 hs2 (fun f hf J3 f3 hfl => rb_Reader_takesWay_16 (br_t rfl (rb_Reader_takesLine_39 ⟨Or.inl rfl, H0 f (sb_l hf) J3 (fL_t L2 (fC_L f3)) hfl⟩))) (fun x hx J3 f3 s3 C3 h54 => rb_Reader_takesWay_16 (br_f br_10 ?_))
    rw [sb_r hx] at H0 H1
    have hs3 : tk_sm x.2 := by rw [(pt_n_t hx).1]; exact tk_sm_t hs2
    rw [h54, nI_add, show 5 + (w - 5) = w by omega]
    refine rs_R_sets (by omega) (pl_C_c (pl_C_c g1 f2) f3) (fun J4 f4 g4 => rb_Reader_takesWay_30 (br_f br_10 ?_))
    have L4 : fL I J4 := fL_t (fL_t L2 (fC_L f3)) (fun p j q1 q2 q3 => f4 p j q3)
    refine rs_R_takes (by omega) (by omega) (tk_C_c C3 (fun p j q => f4 p j (by omega))) hs3 (fun f hf J5 f5 hfl => rb_Reader_takesWay_39 (br_t rfl (rb_Reader_takesLine_39 ⟨Or.inl rfl, H0 f (sb_l hf) J5 (fL_t L4 (fC_L f5)) hfl⟩))) (fun t2 ht2 J5 f5 s5 C5 => rb_Reader_takesWay_39 (br_f br_10 ?_))
    rw [sb_r ht2] at H0 H1
    have hs5 : tk_sm t2 := by rw [(pt_k_t ht2).1]; exact tk_sm_t hs3
    have L5 := fL_t L4 (fC_L f5)
    refine rs_R_number (by omega) (by omega) C5 hs5 (fun f hf J6 f6 hfl => rb_Reader_takesWay_49 (br_t rfl (rb_Reader_takesLine_39 ⟨Or.inl rfl, H0 f (sb_l hf) J6 (fL_t L5 (fC_L f6)) hfl⟩))) (fun y hy J6 f6 s6 C6 h546 => rb_Reader_takesWay_49 (br_f br_10 ?_))
    rw [sb_r hy] at H1
    rw [h546, nI_add, show 8 + (w - 5) = w + 3 by omega]
    refine rs_R_sets (by omega) (pl_C_c (pl_C_c g4 f5) f6) (fun J7 f7 g7 => rb_Reader_takesWay_64 (br_f br_10 (rb_Reader_takesLine_39 ⟨Or.inr rfl, H1 _ rfl J7 (fL_t (fL_t L5 (fC_L f6)) (fun p j q1 q2 q3 => f7 p j q3)) (fun j hj => by rw [f7 54 j (by omega), s6 j hj, s5 j hj, f4 54 j (by omega), s3 j hj, s2 j hj, s1 j hj]) (tk_C_c C6 (fun p j q => f7 p j (by omega))) ?_ g7⟩)))
    show tk_sm y.2
    rw [(pt_n_t hy).1]; exact tk_sm_t hs5
  · -- it moves
    rw [if_pos (by omega)] at H0 H1
    refine rb_Reader_takesMoves_0 (rs_R_takes (by omega) (by omega) C1 hs1 (fun f hf J2 f2 hfl => rb_Reader_takesMoves_6 (br_f (fun z => z rfl) (rb_Reader_takesLine_25 ⟨Or.inl rfl, H0 f (sb_l hf) J2 (fL_t (fC_L fr1) (fC_L f2)) hfl⟩))) (fun t1 ht1 J2 f2 s2 C2 => rb_Reader_takesMoves_6 (br_t br_10 ?_)))
    rw [sb_r ht1] at H0 H1
    have hs2 : tk_sm t1 := by rw [(pt_k_t ht1).1]; exact tk_sm_t hs1
    have hb2 := tk_sm_h hs2 C2.2.2.1
    have L2 := fL_t (fC_L fr1) (fC_L f2)
    rw [C2.2.2.2.2.2.2.1, nI_eq (a := (tk_hd N t1).1) (b := 47) (by omega) (by omega)]
    have go : ∀ (b : Bool) (t2 : List tk_T) (J3 : Nat → Nat → Int32), fC J2 J3 → (∀ j, j < 5 → J3 54 j = J2 54 j) → tk_C T N t2 J3 → tk_sm t2 → (∀ f, pt_n 0 99 N t2 = .inl f → ∀ J, fL I J → pt_f f J → Q (some (.int (nI 0))) (br_hp n J L)) → (∀ x, pt_n 0 99 N t2 = .inr x → ∀ J, fL I J → (∀ j, j < 5 → J 54 j = I 54 j) → tk_C T N x.2 J → tk_sm x.2 → pl_C (br_v g w (if b = true then -(nI x.1) else nI x.1)) J → Q (some (.int (nI 1))) (br_hp n J L)) →
        br_r (d + 2) 65 40 [some (.ref 54), some (.int (nI w)), some (.int (nI b.toNat))] [] (br_hp n J3 L) (fun v h => br_r (d + 3) 64 25 [some (.ref 54), some (.int (nI w))] (v.toList ++ []) (br_bk h) Q) := by
      intro b t2 J3 f3 s3 C3 hs3 G0 G1
      have L3 := fL_t L2 (fC_L f3)
      refine rb_Reader_takesMoves_40 (rs_R_number (by omega) (by omega) C3 hs3 (fun f hf J4 f4 hfl => rb_Reader_takesMoves_47 (br_t rfl (rb_Reader_takesLine_25 ⟨Or.inl rfl, G0 f hf J4 (fL_t L3 (fC_L f4)) hfl⟩))) (fun x hx J4 f4 s4 C4 h54 => rb_Reader_takesMoves_47 (br_f br_10 ?_)))
      have G1' := G1 x hx
      have hsx : tk_sm x.2 := by rw [(pt_n_t hx).1]; exact tk_sm_t hs3
      rw [h54, bu_nI0]
      refine ⟨fun hbf => ?_, fun hbf => ?_⟩
      · rw [hbf, if_neg Bool.false_ne_true] at G1'
        exact rs_R_sets (by omega) (pl_C_c (pl_C_c (pl_C_c g1 f2) f3) f4) (fun J5 f5 g5 => rb_Reader_takesMoves_71 (br_f br_10 (rb_Reader_takesLine_25 ⟨Or.inr rfl, G1' J5 (fL_t (fL_t L3 (fC_L f4)) (fun p j q1 q2 q3 => f5 p j q3)) (fun j hj => by rw [f5 54 j (by omega), s4 j hj, s3 j hj, s2 j hj, s1 j hj]) (tk_C_c C4 (fun p j q => f5 p j (by omega))) hsx g5⟩)))
      · rw [Bool.not_eq_false] at hbf
        rw [hbf, if_pos rfl] at G1'
        exact rs_R_sets (by omega) (pl_C_c (pl_C_c (pl_C_c g1 f2) f3) f4) (fun J5 f5 g5 => rb_Reader_takesMoves_71 (br_f br_10 (rb_Reader_takesLine_25 ⟨Or.inr rfl, G1' J5 (fL_t (fL_t L3 (fC_L f4)) (fun p j q1 q2 q3 => f5 p j q3)) (fun j hj => by rw [f5 54 j (by omega), s4 j hj, s3 j hj, s2 j hj, s1 j hj]) (tk_C_c C4 (fun p j q => f5 p j (by omega))) hsx g5⟩)))
    refine ⟨fun h47 => ?_, fun h47 => ?_⟩
    · rw [if_neg h47] at H0 H1
      exact go false t1 J2 (fun _ _ _ _ => rfl) (fun _ _ => rfl) C2 hs2 (fun f hf => H0 f (sb_l hf)) (fun x hx => H1 _ (sb_r hx))
    · have h47' := Classical.not_not.mp h47
      rw [if_pos h47'] at H0 H1
      obtain ⟨t', r', et⟩ := tk_hd_c h47' (by omega)
      have C2' := C2
      rw [et] at C2'
      refine rs_T_adv C2' (fun J3 f3 C3 => ?_)
      have er2 : r' = t1.tail := by rw [et]; rfl
      rw [er2] at C3
      exact go true t1.tail J3 (fun p j q1 q2 => f3 p j (by omega)) (fun j hj => f3 54 j (by omega)) C3 (tk_sm_t hs2) (fun f hf => H0 f (sb_l hf)) (fun x hx => H1 _ (sb_r hx))
theorem tk_l_sm {b : Nat → Nat} {N : Nat} (hN : N ≤ 400) : ∀ f i, tk_sm (tk_l b N f i)
  | 0, i => fun t ht => by cases ht
  | f + 1, i => by
    by_cases h : i < N
    · by_cases h3 : tk_sp (b i) = true
      · rw [tk_l_S h h3]; exact tk_l_sm hN f (i + 1)
      · obtain ⟨h4, h5, h6, h7⟩ := tk_at_b (b := b) h
        rw [tk_l_T h h3]
        intro t ht
        rcases List.mem_cons.mp ht with e | e
        · rw [e]
          refine ⟨by omega, by omega, ?_⟩
          by_cases hlt : tk_lt (b i) = true
          · rw [tk_at_L hlt]; show 0 ≤ 999; omega
          · by_cases hdg : tk_dg (b i) = true
            · by_cases h8 : tk_e b N tk_dg N (i + 1) - i ≤ 3
              · rw [tk_at_D hlt hdg h8]
                show tk_nu b (tk_e b N tk_dg N (i + 1) - i) i 0 ≤ 999
                have hall : ∀ j, i ≤ j → j < i + (tk_e b N tk_dg N (i + 1) - i) → tk_dg (b j) = true := fun j q1 q2 => by
                  by_cases e : j = i
                  · rw [e]; exact hdg
                  · exact tk_e_q (n := N) N (i + 1) j (by omega) (by omega)
                have hnb := tk_nu_b (b := b) (tk_e b N tk_dg N (i + 1) - i) i 0 hall h8
                generalize tk_e b N tk_dg N (i + 1) - i = k at *
                rcases (by omega : k = 0 ∨ k = 1 ∨ k = 2 ∨ k = 3) with e | e | e | e
                · rw [e] at hnb ⊢; simp at hnb; omega
                · rw [e] at hnb ⊢; simp at hnb; omega
                · rw [e] at hnb ⊢; simp at hnb; omega
                · rw [e] at hnb ⊢; simp at hnb; omega
              · rw [tk_at_B hlt hdg h8]; show 0 ≤ 999; omega
            · rw [tk_at_S hlt hdg]; show 0 ≤ 999; omega
        · exact tk_l_sm hN f _ t e
    · rw [tk_l_0 (by omega)]; exact fun t ht => by cases ht
theorem rs_fillI {p l : Nat} {x : Int32} {z2 z3 : Option Value} (hp : br_S0 n p = (1, l)) (h8 : 8 ≤ p) (hl : l < 2 ^ 31) (H : Q none (br_hp n (br_row I p 0 (fun _ => x) l) L)) : br_r d 5 0 [some (.ref p), some (.int x), z2, z3] [] (br_hp n I L) Q := by
  have loop : ∀ k i, i + k = l → br_r d 5 5 [some (.ref p), some (.int x), some (.int (nI i)), some (.int (nI l))] [] (br_hp n (br_row I p 0 (fun _ => x) i) L) Q := by
    intro k
    induction k with
    | zero =>
      intro i hi
      have : i = l := by omega
      subst this
      exact rb_Arrays_fill_aII_5 (br_t (nI_le (Nat.le_refl _) (by omega)) H)
    | succ k ih =>
      intro i hi
      have h1 := ih (i + 1) (by omega)
      rw [br_row_s, Nat.zero_add] at h1
      refine rb_Arrays_fill_aII_5 (br_f (nI_ge (by omega) hl) ?_)
      rw [hp, nI_clamp (by omega), nI_add]
      exact ⟨rfl, h8, vp_in_nI (by omega) hl, h1⟩
  have l0 := loop l 0 (by omega)
  rw [br_row_0] at l0
  refine rb_Arrays_fill_aII_0 ?_
  rw [hp]
  exact ⟨rfl, l0⟩
/-- a whole law -/
def pl_g0 : Nat → Int32 := fun j => if j = 17 then nI 200 else nI 0
def fR (I J : Nat → Nat → Int32) : Prop := ∀ p j, ¬ (p = 54 ∧ 3 ≤ j ∧ j ≤ 5) → ¬ (p = 55 ∧ 5 ≤ j) → ¬ (57 ≤ p ∧ p ≤ 63) → J p j = I p j
theorem rs_R_law {b : Nat → Nat} {T0 : Nat} {z2 : Option Value} (ho : br_odx I) (h : tk_A b N I) (h1 : I 55 1 = nI T0) (hN : N ≤ T0) (hT : T0 ≤ 400)
    (H0 : ∀ f, pl_all N 31 0 (tk_l b N N 0) pl_g0 = .inl f → ∀ J, fR I J → pt_f f J → Q (some (.int (nI 0))) (br_hp n J L))
    (H1 : ∀ y, pl_all N 31 0 (tk_l b N N 0) pl_g0 = .inr y → ∀ J, fR I J → pt_f (0, 0) (br_u J 54 4 (nI 0)) → J 54 4 = -(nI 1) → pl_C y.2 J → J 60 1 = nI y.1 → Q (some (.int (nI 1))) (br_hp n J L)) :
    br_r (d + 11) 39 0 [some (.ref 54), some (.int (nI N)), z2] [] (br_hp n I L) Q := by
  have loop : ∀ f c (ts : List tk_T) (g : Nat → Int32) (J : Nat → Nat → Int32) (z1 : Option Value), c + f = 31 → fR I J → tk_C (tk_l b N N 0) N ts J → tk_sm ts → pl_C g J → J 60 1 = nI c → J 54 3 = nI 0 → J 54 4 = -(nI 1) → c ≤ 30 → pl_all N f c ts g = pl_all N 31 0 (tk_l b N N 0) pl_g0 →
      br_r (d + 11) 39 14 [some (.ref 54), z1, some (.int (nI c))] [] (br_hp n J L) Q := by
    intro f
    induction f with
    | zero =>
      intro c ts g J z1 hc hJ C hs hg h60 h543 h544 hc30 he
      omega
    | succ f ih =>
      intro c ts g J z1 hc hJ C hs hg h60 h543 h544 hc30 he
      have e0 : pl_all N (f + 1) c ts g = (if (tk_hd N ts).1 = 42 then .inr (c, g) else if pl_bad (tk_hd N ts).1 = true then .inl (tk_fail 2 (tk_hd N ts)) else if c = 30 then .inl (tk_fail 4 (tk_hd N ts)) else sb (pl_line N (tk_hd N ts).1 ts.tail g) (fun x => sb (pt_k 44 N x.1) (fun t => pl_all N f (c + 1) t x.2))) := rfl
      rw [e0] at he
      have hb := tk_sm_h hs C.2.2.1
      have hJo : br_odx J := br_odx_c ho (fun p j hp => hJ p j (by omega) (by omega) (by omega))
      have cs : nI 30 < nI c ↔ 30 < c := by rw [br_ltT, nI_toInt (by omega), nI_toInt (by omega)]; omega
      have c17 : nI 17 < nI (tk_hd N ts).1 ↔ 17 < (tk_hd N ts).1 := by rw [br_ltT, nI_toInt (by omega), nI_toInt (by omega)]; omega
      have c8 : nI (tk_hd N ts).1 < nI 8 ↔ (tk_hd N ts).1 < 8 := by rw [br_ltT, nI_toInt (by omega), nI_toInt (by omega)]; omega
      have c10 : nI 10 < nI (tk_hd N ts).1 ↔ 10 < (tk_hd N ts).1 := by rw [br_ltT, nI_toInt (by omega), nI_toInt (by omega)]; omega
      have bad : (tk_hd N ts).1 ≠ 42 → pl_bad (tk_hd N ts).1 = true → br_r (d + 10) 63 0 [some (.ref 54), some (.int (nI 2))] [] (br_hp n J L) (fun v h => br_r (d + 11) 39 75 [some (.ref 54), z1, some (.int (nI c))] (v.toList ++ []) (br_bk h) Q) := by
        intro h42 hbad
        rw [if_neg h42, if_pos hbad] at he
        exact rs_R_fails C hs (fun J2 f2 hfl => rb_Reader_readLaw_75 ⟨Or.inl rfl, H0 _ he.symm J2 (fun p j q1 q2 q3 => by rw [f2 p j q1 (by omega)]; exact hJ p j q1 q2 q3) hfl⟩)
      have good : (tk_hd N ts).1 ≠ 42 → pl_bad (tk_hd N ts).1 = false → ((¬ c = 30 → br_r (d + 10) 64 0 [some (.ref 54), none] [] (br_hp n J L) (fun v h => br_r (d + 11) 39 92 [some (.ref 54), z1, some (.int (nI c))] (v.toList ++ []) (br_bk h) Q)) ∧ (¬ ¬ c = 30 → br_r (d + 10) 63 0 [some (.ref 54), some (.int (nI 4))] [] (br_hp n J L) (fun v h => br_r (d + 11) 39 87 [some (.ref 54), z1, some (.int (nI c))] (v.toList ++ []) (br_bk h) Q))) := by
        intro h42 hgood
        rw [if_neg h42, if_neg (by rw [hgood]; exact Bool.false_ne_true)] at he
        refine ⟨fun h30 => ?_, fun h30 => ?_⟩
        · rw [if_neg h30] at he
          refine rs_R_line (d := d + 7) hJo C hs rfl hgood hg (fun f2 hf J2 f2' hfl => rb_Reader_readLaw_92 (br_t rfl (H0 f2 (by rw [← he]; exact sb_l hf) J2 (fun p j q1 q2 q3 => by rw [f2' p j q1 (by omega) (by omega)]; exact hJ p j q1 q2 q3) hfl))) (fun y hy J2 f2 s2 C2 hs2 g2 => rb_Reader_readLaw_92 (br_f br_10 ?_))
          rw [sb_r hy] at he
          refine rs_R_takes (by omega) (by omega) C2 hs2 (fun f3 hf J3 f3' hfl => rb_Reader_readLaw_101 (br_f (fun z => z rfl) (H0 f3 (by rw [← he]; exact sb_l hf) J3 (fun p j q1 q2 q3 => by rw [f3' p j q1 (by omega), f2 p j q1 (by omega) (by omega)]; exact hJ p j q1 q2 q3) hfl))) (fun t1 ht1 J3 f3 s3 C3 => rb_Reader_readLaw_101 (br_t br_10 ?_))
          rw [sb_r ht1] at he
          have j60 : J3 60 1 = nI c := by rw [f3 60 1 (by omega) (by omega), f2 60 1 (by omega) (by omega) (by omega)]; exact h60
          rw [j60, nI_add]
          refine ih (c + 1) t1 y.2 _ _ (by omega) (fun p j q1 q2 q3 => ?_) (tk_C_c C3 (fun p j q => br_u_n (by omega))) ?_ (fun j hj => ?_) br_u_s ?_ ?_ (by omega) he
          · rw [br_u_n (by omega), f3 p j q1 (by omega), f2 p j q1 (by omega) (by omega)]; exact hJ p j q1 q2 q3
          · rw [(pt_k_t ht1).1]; exact tk_sm_t hs2
          · rw [br_u_n (by omega)]; exact pl_C_c g2 f3 j hj
          · rw [br_u_n (by omega), s3 3 (by omega), s2 3 (by omega)]; exact h543
          · rw [br_u_n (by omega), s3 4 (by omega), s2 4 (by omega)]; exact h544
        · have h30' := Classical.not_not.mp h30
          rw [if_pos h30'] at he
          exact rs_R_fails C hs (fun J2 f2 hfl => rb_Reader_readLaw_87 ⟨Or.inl rfl, H0 _ he.symm J2 (fun p j q1 q2 q3 => by rw [f2 p j q1 (by omega)]; exact hJ p j q1 q2 q3) hfl⟩)
      refine rb_Reader_readLaw_14 (br_f (by rw [cs]; omega) ?_)
      rw [C.2.2.2.2.2.2.1, nI_eq (a := (tk_hd N ts).1) (b := 42) (by omega) (by omega), nI_eq (a := c) (b := 30) (by omega) (by omega), c17, c8, c10]
      refine ⟨fun h42 => ⟨fun q => bad h42 (decide_eq_true (Or.inl q)), fun q => ⟨fun q2 => good h42 (decide_eq_false (by omega)), fun q2 => ⟨fun q3 => good h42 (decide_eq_false (by omega)), fun q3 => bad h42 (decide_eq_true (Or.inr (by omega)))⟩⟩⟩, fun h42 => ?_⟩
      rw [if_pos (Classical.not_not.mp h42)] at he
      exact H1 _ he.symm J hJ ⟨by rw [br_u_n (by omega)]; exact h543, br_u_s⟩ h544 hg h60
  have hA0 : tk_A b N (br_u (br_u I 54 3 (nI 0)) 54 4 (-(nI 1))) := tk_A_c h (fun j => by rw [br_u_n (by omega), br_u_n (by omega)])
  have ho0 : br_odx (br_u (br_u I 54 3 (nI 0)) 54 4 (-(nI 1))) := br_odx_c ho (fun p j hp => by rw [br_u_n (by omega), br_u_n (by omega)])
  refine rb_Reader_readLaw_0 (rb_Reader_begin_0 (rs_T_start (d := d) ho0 hA0 (by rw [br_u_n (by omega), br_u_n (by omega)]; exact h1) hN hT (fun J1 f1 C1 => rb_Reader_begin_18 (rb_Reader_readLaw_5 ?_))))
  have g0 : ∀ J : Nat → Nat → Int32, pl_C pl_g0 (br_u (br_u (br_row J 61 0 (fun _ => nI 0) 18) 61 17 (nI 200)) 60 1 (nI 0)) := fun J j hj => by
    rw [br_u_n (by omega)]
    unfold pl_g0
    by_cases e : j = 17
    · subst e; rw [br_u_s, if_pos rfl]
    · rw [br_u_n (by omega), if_neg e]
      have := br_row_i (f := J) (p := 61) (b := 0) (F := fun _ => nI 0) (m := 18) hj
      rw [Nat.zero_add] at this
      exact this
  refine rb_Law_clear_0 ⟨rfl, rs_fillI (p := 61) (l := 18) rfl (by omega) (by omega) (rb_Law_clear_8 ⟨rfl, rfl, by show 8 ≤ 61; omega, vp_in_nI (n := 17) (N := 18) (by omega) (by omega), rfl, rb_Reader_readLaw_12 ?_⟩)⟩
  have rw_n : ∀ p j, p ≠ 61 → br_row J1 61 0 (fun _ => nI 0) 18 p j = J1 p j := fun p j hp => br_row_n (fun z => hp z.1)
  refine loop 31 0 (tk_l b N N 0) pl_g0 _ _ (by omega) (fun p j q1 q2 q3 => ?_) (tk_C_c C1 (fun p j q => ?_)) (tk_l_sm h.1 N 0) (g0 J1) br_u_s ?_ ?_ (by omega) rfl
  · show br_u (br_u (br_row J1 61 0 (fun _ => nI 0) 18) 61 17 (nI 200)) 60 1 (nI 0) p j = I p j
    rw [br_u_n (by omega), br_u_n (by omega), rw_n p j (by omega), f1 p j (by omega) (by omega), br_u_n (by omega), br_u_n (by omega)]
  · show br_u (br_u (br_row J1 61 0 (fun _ => nI 0) 18) 61 17 (nI 200)) 60 1 (nI 0) p j = J1 p j
    rw [br_u_n (by omega), br_u_n (by omega), rw_n p j (by omega)]
  · show br_u (br_u (br_row J1 61 0 (fun _ => nI 0) 18) 61 17 (nI 200)) 60 1 (nI 0) 54 3 = nI 0
    rw [br_u_n (by omega), br_u_n (by omega), rw_n 54 3 (by omega), f1 54 3 (by omega) (by omega), br_u_n (by omega), br_u_s]
  · show br_u (br_u (br_row J1 61 0 (fun _ => nI 0) 18) 61 17 (nI 200)) 60 1 (nI 0) 54 4 = -(nI 1)
    rw [br_u_n (by omega), br_u_n (by omega), rw_n 54 4 (by omega), f1 54 4 (by omega) (by omega), br_u_s]
end
