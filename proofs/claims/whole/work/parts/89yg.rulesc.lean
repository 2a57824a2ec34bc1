set_option maxRecDepth 100000
set_option maxHeartbeats 4000000
def dR (c : Nat) (os : pr_O) (fr : Nat → Nat) (J : Nat → Nat → Int32) : Prop := J 62 1 = nI (os.length + c) ∧ J 62 2 = nI c ∧ ∀ r, r < c → (∀ i t, fr r ≤ i → i < fr (r + 1) → os[i]? = some t → J 63 (i + r) = nI (256 * t.1 + t.2)) ∧ J 63 (fr (r + 1) + r) = nI (256 * 18 + 0)
section
variable {d n : Nat} {Q : br_Q} {I J : Nat → Nat → Int32} {L : Nat → Nat → Int64} {N : Nat}
theorem fR_K {s : Nat} (h : fR I J) {K : Nat → Nat → Int32} (h2 : fK s J K) : fR I K := fun p j q1 q2 q3 => by rw [h2 p j q1 (by omega) (by omega) (by omega), h p j q1 q2 q3]
theorem fR_c (h : fR I J) {K : Nat → Nat → Int32} (h2 : fC J K) : fR I K := fun p j q1 q2 q3 => by rw [h2 p j q1 (by omega), h p j q1 q2 q3]
theorem rs_R_rules {b : Nat → Nat} {T0 : Nat} {z2 : Option Value} (ho : br_odx I) (h : tk_A b N I) (h1 : I 55 1 = nI T0) (hN : N ≤ T0) (hT : T0 ≤ 400)
    (H0 : ∀ f, pr_all N 13 0 (tk_l b N N 0) [] (fun _ => 0) = .inl f → ∀ J, fR I J → pt_f f J → Q (some (.int (nI 0))) (br_hp n J L))
    (H1 : ∀ y, pr_all N 13 0 (tk_l b N N 0) [] (fun _ => 0) = .inr y → ∀ J, fR I J → J 54 3 = nI 0 → J 54 4 = -(nI 1) → dR y.1 y.2.1 y.2.2 J → Q (some (.int (nI 1))) (br_hp n J L)) :
    br_r (d + 29) 70 0 [some (.ref 54), some (.int (nI N)), z2] [] (br_hp n I L) Q := by
  have loop : ∀ f c (ts : List tk_T) (os : pr_O) (fr : Nat → Nat) (p : Nat) (J : Nat → Nat → Int32) (z1 : Option Value), c + f = 13 → fR I J → tk_C (tk_l b N N 0) N ts J → tk_sm ts → tk_ok N ts p → 2 * os.length ≤ p → pr_inv c os fr → dR c os fr J → J 54 3 = nI 0 → J 54 4 = -(nI 1) → c ≤ 12 → pr_all N f c ts os fr = pr_all N 13 0 (tk_l b N N 0) [] (fun _ => 0) →
      br_r (d + 29) 70 14 [some (.ref 54), z1, some (.int (nI c))] [] (br_hp n J L) Q := by
    intro f
    induction f with
    | zero => intro c ts os fr p J z1 hc hJ C hs ok b2 inv D h543 h544 hc12 he; omega
    | succ f ih =>
      intro c ts os fr p J z1 hc hJ C hs ok b2 inv D h543 h544 hc12 he
      have e0 : pr_all N (f + 1) c ts os fr = (if (tk_hd N ts).1 = 42 then .inr (c, os, fr) else if ¬ (tk_hd N ts).1 = 18 then .inl (tk_fail 2 (tk_hd N ts)) else if c = 12 then .inl (tk_fail 4 (tk_hd N ts)) else sb (pt_k 19 N ts.tail) (fun t1 => sb (pr_test N t1 os) (fun x => sb (pt_k 44 N x.1) (fun t2 => pr_all N f (c + 1) t2 x.2 (br_v fr (c + 1) x.2.length))))) := rfl
      rw [e0] at he
      have hb := tk_sm_h hs C.2.2.1
      have hN4 := C.2.2.1
      have hpN := tk_ok_N ok
      have hJo : br_odx J := br_odx_c ho (fun p j hp => hJ p j (by omega) (by omega) (by omega))
      have cs : nI 12 < nI c ↔ 12 < c := by rw [br_ltT, nI_toInt (by omega), nI_toInt (by omega)]; omega
      refine rb_Reader_readRules_14 (br_f (by rw [cs]; omega) ?_)
      rw [C.2.2.2.2.2.2.1, nI_eq (a := (tk_hd N ts).1) (b := 42) (by omega) (by omega), nI_eq (a := (tk_hd N ts).1) (b := 18) (by omega) (by omega), nI_eq (a := c) (b := 12) (by omega) (by omega)]
      refine ⟨fun h42 => ⟨fun h18 => ⟨fun h12 => ?_, fun h12 => ?_⟩, fun h18 => ?_⟩, fun h42 => ?_⟩
      · rw [if_neg h42, if_neg (fun z => z h18), if_neg h12] at he
        refine rs_R_takes (d := d + 27) (by omega) (by omega) C hs (fun f3 hf => by rw [pt_k_T h18] at hf; cases hf) (fun t0 ht0 J1 f1 s1 C1 => rb_Reader_readRules_70 (br_f br_10 ?_))
        have et0 := (pt_k_t ht0).1
        rw [et0] at C1
        have ok1 := tk_ok_tl ok h18 (by omega)
        rw [if_pos (by omega)] at ok1
        refine rs_R_takes (d := d + 27) (by omega) (by omega) C1 (tk_sm_t hs) (fun f3 hf J2 f2 hfl => rb_Reader_readRules_79 (br_t rfl (H0 f3 (by rw [← he]; exact sb_l hf) J2 (fR_c (fR_c hJ f1) f2) hfl))) (fun t1 ht1 J2 f2 s2 C2 => rb_Reader_readRules_79 (br_f br_10 ?_))
        rw [sb_r ht1] at he
        have ok2 := tk_ok_tl ok1 (pt_k_t ht1).2 (by omega)
        rw [if_pos (by omega), ← (pt_k_t ht1).1] at ok2
        have sm2 : tk_sm t1 := by rw [(pt_k_t ht1).1]; exact tk_sm_t (tk_sm_t hs)
        have J2R : fR I J2 := fR_c (fR_c hJ f1) f2
        have sp : cSp (d + 28) n L (tk_l b N N 0) N (fr c) c 72 [some (.ref 54), some (.int (nI 0)), none, none] (pr_test N) := rs_R_test (D := d + 27) (k := 0) (by omega) hc12 (pr_ch_good (N := N) (op := 21) (Or.inr rfl) (by omega) (pr_f_good (N := N) 8)) (rs_R_part (D := d + 26) (k := 0) (by omega) hc12 (pr_f_good (N := N) 8) (rs_R_fact hc12 8 (by omega) d))
        refine sp _ J2 t1 os (p + 2 + 2) (br_odx_c ho (fun p j hp => J2R p j (by omega) (by omega) (by omega))) C2 sm2 ok2 (by omega) (by rw [inv.2.1]; exact Nat.le_refl _) ⟨by rw [f2 62 1 (by omega) (by omega), f1 62 1 (by omega) (by omega)]; exact D.1, fun i t a e => ?_⟩ (fun fa hf J3 f3 c3 => rb_Reader_readRules_87 (br_t rfl (H0 fa (by rw [← he]; exact sb_l hf) J3 (fR_K J2R f3) c3.1))) (fun x hx J3 f3 s3 C3 d3 => rb_Reader_readRules_87 (br_f br_10 ?_))
        · have := (List.getElem?_eq_some_iff.mp e).1
          rw [inv.2.1] at a; omega
        rw [sb_r hx] at he
        obtain ⟨seg, p', g1, g2, g3, ⟨k1, g4⟩, g5⟩ := pr_test_good _ _ _ _ ok2 hx
        have hpN' := tk_ok_N g2
        have el : x.2.length = os.length + seg.length := by rw [g1, List.length_append]
        have sm3 : tk_sm x.1 := by rw [g4]; exact tk_sm_d sm2 k1
        refine rs_R_takes (d := d + 27) (by omega) (by omega) C3 sm3 (fun f4 hf J4 f4' hfl => rb_Reader_readRules_96 (br_f (fun z => z rfl) (H0 f4 (by rw [← he]; exact sb_l hf) J4 (fR_c (fR_K J2R f3) f4') hfl))) (fun t2 ht2 J4 f4 s4 C4 => rb_Reader_readRules_96 (br_t br_10 ?_))
        rw [sb_r ht2] at he
        have et2 := (pt_k_t ht2).1
        have ok4 := tk_ok_tl g2 (pt_k_t ht2).2 (by omega)
        rw [if_neg (by omega), ← et2] at ok4
        refine rs_R_add (dC_c d3 f4) (by omega) (by omega) (by omega) (fun J5 f5 d5 => rb_Reader_readRules_111 ?_)
        have j62 : J5 62 2 = nI c := by rw [f5 62 2 (by omega) (by omega), f4 62 2 (by omega) (by omega), f3 62 2 (by omega) (by omega) (by omega) (by omega), f2 62 2 (by omega) (by omega), f1 62 2 (by omega) (by omega)]; exact D.2.1
        have J4R : fR I J4 := fR_c (fR_K J2R f3) f4
        rw [j62, nI_add]
        refine ih (c + 1) t2 x.2 _ (p' + 1) _ _ (by omega) (fun p j q1 q2 q3 => ?_) (tk_C_c C4 (fun p j q => ?_)) ?_ ok4 (by omega) (by rw [g1]; exact pr_inv_s inv (g5 0 (by omega))) ⟨?_, br_u_s, fun r hr => ?_⟩ ?_ ?_ (by omega) he
        · rw [br_u_n (by omega), f5 p j (by omega) (by omega)]; exact J4R p j q1 q2 q3
        · rw [br_u_n (by omega), f5 p j (by omega) (by omega)]
        · rw [et2]; exact tk_sm_t sm3
        · rw [br_u_n (by omega), d5.1, List.length_append]; congr 1; show x.2.length + 1 + c = _; omega
        · have keep : ∀ j, j < os.length + c → br_u J5 62 2 (nI (c + 1)) 63 j = J 63 j := fun j hj => by
            rw [br_u_n (by omega), f5 63 j (by omega) (by omega), f4 63 j (by omega) (by omega), f3 63 j (by omega) (by omega) (by omega) (by rw [inv.2.1]; omega), f2 63 j (by omega) (by omega), f1 63 j (by omega) (by omega)]
          by_cases e : r = c
          · subst e
            rw [br_v_s, br_v_j (by omega)]
            refine ⟨fun i t q1 q2 q3 => ?_, ?_⟩
            · rw [br_u_n (by omega)]
              exact d5.2 i t q1 (by rw [List.getElem?_append_left q2]; exact q3)
            · rw [br_u_n (by omega)]
              exact d5.2 x.2.length (18, 0) (by rw [inv.2.1]; omega) (by rw [List.getElem?_append_right (Nat.le_refl _), Nat.sub_self]; rfl)
          · obtain ⟨i1, i2, i3⟩ := inv.2.2 r (by omega)
            obtain ⟨D1, D2⟩ := D.2.2 r (by omega)
            rw [br_v_j (by omega), br_v_j (by omega)]
            refine ⟨fun i t q1 q2 q3 => ?_, ?_⟩
            · rw [keep _ (by omega)]
              exact D1 i t q1 q2 (by rw [g1, List.getElem?_append_left (by omega)] at q3; exact q3)
            · rw [keep _ (by omega)]; exact D2
        · rw [br_u_n (by omega), f5 54 3 (by omega) (by omega), s4 3 (by omega), s3 3 (by omega), s2 3 (by omega), s1 3 (by omega)]; exact h543
        · rw [br_u_n (by omega), f5 54 4 (by omega) (by omega), s4 4 (by omega), s3 4 (by omega), s2 4 (by omega), s1 4 (by omega)]; exact h544
      · have h12' := Classical.not_not.mp h12
        rw [if_neg h42, if_neg (fun z => z h18), if_pos h12'] at he
        exact rs_R_fails C hs (fun J2 f2 hfl => rb_Reader_readRules_63 ⟨Or.inl rfl, H0 _ he.symm J2 (fR_c hJ f2) hfl⟩)
      · rw [if_neg h42, if_pos h18] at he
        exact rs_R_fails C hs (fun J2 f2 hfl => rb_Reader_readRules_51 ⟨Or.inl rfl, H0 _ he.symm J2 (fR_c hJ f2) hfl⟩)
      · rw [if_pos (Classical.not_not.mp h42)] at he
        exact H1 _ he.symm J hJ h543 h544 D
  have hA0 : tk_A b N (br_u (br_u I 54 3 (nI 0)) 54 4 (-(nI 1))) := tk_A_c h (fun j => by rw [br_u_n (by omega), br_u_n (by omega)])
  have ho0 : br_odx (br_u (br_u I 54 3 (nI 0)) 54 4 (-(nI 1))) := br_odx_c ho (fun p j hp => by rw [br_u_n (by omega), br_u_n (by omega)])
  refine rb_Reader_readRules_0 (rb_Reader_begin_0 (rs_T_start (d := d + 18) ho0 hA0 (by rw [br_u_n (by omega), br_u_n (by omega)]; exact h1) hN hT (fun J1 f1 C1 => rb_Reader_begin_18 (rb_Reader_readRules_5 (rb_Rules_clear_0 ⟨rfl, rfl, rb_Reader_readRules_12 ?_⟩)))))
  refine loop 13 0 (tk_l b N N 0) [] (fun _ => 0) 0 _ _ (by omega) (fun p j q1 q2 q3 => ?_) (tk_C_c C1 (fun p j q => ?_)) (tk_l_sm h.1 N 0) (tk_l_ok N 0 (Nat.zero_le _)) (Nat.le_refl _) ⟨rfl, rfl, fun r hr => absurd hr (by omega)⟩ ⟨?_, br_u_s, fun r hr => absurd hr (by omega)⟩ ?_ ?_ (by omega) rfl
  · rw [br_u_n (by omega), br_u_n (by omega), f1 p j (by omega) (by omega), br_u_n (by omega), br_u_n (by omega)]
  · rw [br_u_n (by omega), br_u_n (by omega)]
  · rw [br_u_n (by omega), br_u_s]; rfl
  · rw [br_u_n (by omega), br_u_n (by omega), f1 54 3 (by omega) (by omega), br_u_n (by omega), br_u_s]
  · rw [br_u_n (by omega), br_u_n (by omega), f1 54 4 (by omega) (by omega), br_u_s]
end
