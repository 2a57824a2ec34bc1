set_option maxRecDepth 100000
set_option maxHeartbeats 4000000
/-! the model reads rules -/
def pr_one (N c : Nat) (ts : List tk_T) (os : pr_O) : Sum pt_F (List tk_T × pr_O) := if ¬ (tk_hd N ts).1 = 18 then .inl (tk_fail 2 (tk_hd N ts)) else if c = 12 then .inl (tk_fail 4 (tk_hd N ts)) else sb (pt_k 19 N ts.tail) (fun t1 => sb (pr_test N t1 os) (fun x => sb (pt_k 44 N x.1) (fun t2 => .inr (t2, x.2))))
theorem pr_all_s {N f c : Nat} {ts : List tk_T} {os : pr_O} {fr : Nat → Nat} (h : ¬ (tk_hd N ts).1 = 42) : pr_all N (f + 1) c ts os fr = sb (pr_one N c ts os) (fun y => pr_all N f (c + 1) y.1 y.2 (br_v fr (c + 1) y.2.length)) := by
  have e0 : pr_all N (f + 1) c ts os fr = (if (tk_hd N ts).1 = 42 then .inr (c, os, fr) else if ¬ (tk_hd N ts).1 = 18 then .inl (tk_fail 2 (tk_hd N ts)) else if c = 12 then .inl (tk_fail 4 (tk_hd N ts)) else sb (pt_k 19 N ts.tail) (fun t1 => sb (pr_test N t1 os) (fun x => sb (pt_k 44 N x.1) (fun t2 => pr_all N f (c + 1) t2 x.2 (br_v fr (c + 1) x.2.length))))) := rfl
  rw [e0, if_neg h]
  unfold pr_one
  by_cases h18 : ¬ (tk_hd N ts).1 = 18
  · rw [if_pos h18, if_pos h18]; rfl
  · rw [if_neg h18, if_neg h18]
    by_cases h12 : c = 12
    · rw [if_pos h12, if_pos h12]; rfl
    · rw [if_neg h12, if_neg h12]
      cases h1 : pt_k 19 N ts.tail with
      | inl f => rfl
      | inr t1 =>
        show sb (pr_test N t1 os) _ = sb (sb (pr_test N t1 os) _) _
        cases h2 : pr_test N t1 os with
        | inl f => rfl
        | inr x =>
          show sb (pt_k 44 N x.1) _ = sb (sb (pt_k 44 N x.1) _) _
          cases h3 : pt_k 44 N x.1 with
          | inl f => rfl
          | inr t2 => rfl
theorem pr_one_good {N c p : Nat} {ts : List tk_T} {os : pr_O} {y : List tk_T × pr_O} (ok : tk_ok N ts p) (b2 : 2 * os.length ≤ p) (hc : c ≤ 12) (e : pr_one N c ts os = .inr y) : c < 12 ∧ ∃ seg p', y.2 = os ++ seg ∧ tk_ok N y.1 p' ∧ 2 * y.2.length ≤ p' ∧ (∃ k, y.1 = ts.drop k) ∧ pr_p seg 0 1 := by
  unfold pr_one at e
  by_cases h18 : ¬ (tk_hd N ts).1 = 18
  · rw [if_pos h18] at e; cases e
  · rw [if_neg h18] at e
    by_cases h12 : c = 12
    · rw [if_pos h12] at e; cases e
    · rw [if_neg h12] at e
      obtain ⟨t1, q1, e⟩ := sb_inr e
      obtain ⟨x, q2, e⟩ := sb_inr e
      obtain ⟨t2, q3, e⟩ := sb_inr e
      have e' := Sum.inr.inj e
      subst e'
      have ok1 := tk_ok_tl ok (Classical.not_not.mp h18) (by omega)
      rw [if_pos (by omega)] at ok1
      obtain ⟨a1, a2⟩ := pt_k_t q1
      have ok2 := tk_ok_tl ok1 a2 (by omega)
      rw [if_pos (by omega), ← a1] at ok2
      obtain ⟨seg, p', g1, g2, g3, ⟨k1, g4⟩, g5⟩ := pr_test_good _ _ _ _ ok2 q2
      obtain ⟨a3, a4⟩ := pt_k_t q3
      have ok3 := tk_ok_tl g2 a4 (by omega)
      rw [if_neg (by omega), ← a3] at ok3
      have el : x.2.length = os.length + seg.length := by rw [g1, List.length_append]
      refine ⟨by omega, seg, p' + 1, g1, ok3, ?_, ⟨1 + 1 + k1 + 1, ?_⟩, g5 0 (by omega)⟩
      · show 2 * x.2.length ≤ p' + 1
        omega
      · show t2 = ts.drop (1 + 1 + k1 + 1)
        rw [a3, g4, a1, ← List.drop_one, ← List.drop_one, ← List.drop_one, List.drop_drop, List.drop_drop, List.drop_drop]
        first
          | rfl
          | (congr 1; omega)
theorem pr_all_good {N : Nat} : ∀ (f c : Nat) (ts : List tk_T) (os : pr_O) (fr : Nat → Nat) (y : Nat × pr_O × (Nat → Nat)) (p : Nat), c + f = 13 → c ≤ 12 → tk_ok N ts p → 2 * os.length ≤ p → pr_inv c os fr → pr_all N f c ts os fr = .inr y → y.1 ≤ 12 ∧ 2 * y.2.1.length ≤ N ∧ pr_inv y.1 y.2.1 y.2.2
  | 0, c, ts, os, fr, y, p, hc, hc2, ok, b2, inv, e => by omega
  | f + 1, c, ts, os, fr, y, p, hc, hc2, ok, b2, inv, e => by
    by_cases h42 : (tk_hd N ts).1 = 42
    · have e0 : pr_all N (f + 1) c ts os fr = .inr (c, os, fr) := if_pos h42
      rw [e0] at e
      have e' := Sum.inr.inj e
      subst e'
      have := tk_ok_N ok
      exact ⟨hc2, by show 2 * os.length ≤ N; omega, inv⟩
    · rw [pr_all_s h42] at e
      obtain ⟨x, hx, e⟩ := sb_inr e
      obtain ⟨c12, seg, p', g1, g2, g3, g4, g5⟩ := pr_one_good ok b2 hc2 hx
      exact pr_all_good f (c + 1) x.1 x.2 _ y p' (by omega) (by omega) g2 g3 (by rw [g1]; exact pr_inv_s inv g5) e
def fH (I J : Nat → Nat → Int32) : Prop := ∀ p j, ¬ (p = 169 ∧ 7 ≤ j ∧ j ≤ 15) → p ≠ 174 → J p j = I p j
section
variable {d n : Nat} {Q : br_Q} {I J : Nat → Nat → Int32} {L : Nat → Nat → Int64} {b : Nat → Nat} {N : Nat} {ts : List tk_T}
theorem fH_G (h : fG I J) : fH I J := fun p j q1 q2 => h p j q1 (by omega)
theorem fH_M (h : fM I J) : fH I J := fH_G (fG_M h)
theorem fH_N (h : fN I J) : fH I J := fH_M (fN_M h)
theorem fH_t {K : Nat → Nat → Int32} (h : fH I J) (h2 : fH J K) : fH I K := fun p j q1 q2 => by rw [h2 p j q1 q2, h p j q1 q2]
theorem fH_u {k : Nat} {x : Int32} (h : fH I J) : fH I (br_u J 174 k x) := fun p j q1 q2 => by rw [br_u_n (by omega)]; exact h p j q1 q2
theorem mC_u {os : pr_O} {k : Nat} {x : Int32} (h : mC os I) (hk : k < 129) : mC os (br_u I 174 k x) := ⟨by rw [br_u_n (by omega)]; exact h.1, fun i t e => by rw [br_u_n (by omega), br_u_n (by omega)]; exact h.2 i t e⟩
theorem rs_M_testF (h12 : ¬ I 169 12 = nI 0) (H : Q none (br_hp n I L)) : br_r (d + 3) 218 0 [some (.ref 169)] [] (br_hp n I L) Q :=
  rb_M_readTest_0 (rb_M_readPart_0 (rb_M_readFact_0 (br_f h12 (rb_M_readPart_4 (rs_M_eatsF h12 (rb_M_readPart_10 (br_t rfl (rb_M_readTest_4 (rs_M_eatsF h12 (rb_M_readTest_10 (br_t rfl H)))))))))))
theorem rs_M_rule {c p : Nat} {os : pr_O} {z1 : Option Value} (M : tk_Mr b N ts I) (v : tk_vd ts) (sm : tk_sm ts) (ok : tk_ok N ts p) (b2 : 2 * os.length ≤ p) (e12 : I 169 12 = nI 0) (e14 : I 169 14 = nI 0) (mc : mC os I) (h104 : I 174 104 = nI c) (hc : c ≤ 12)
    (H0 : ∀ f, pr_one N c ts os = .inl f → ∀ J, fH I J → mf f J → Q none (br_hp n J L))
    (H1 : ∀ y, pr_one N c ts os = .inr y → ∀ J, fH I J → tk_Mr b N y.1 J → J 169 12 = nI 0 → J 169 14 = nI 0 → mC y.2 J → J 174 104 = nI (c + 1) → J 174 (105 + c) = nI os.length → J 174 (117 + c) = nI y.2.length → (∀ j, j < 129 → j ≠ 104 → j ≠ 105 + c → j ≠ 117 + c → J 174 j = I 174 j) → Q none (br_hp n J L)) :
    br_r (d + 37) 217 0 [some (.ref 169), z1] [] (br_hp n I L) Q := by
  have hv := tk_vd_h (N := N) v
  have hN := M.1.1
  unfold pr_one at H0 H1
  have fell14 : ∀ (f : pt_F) (J : Nat → Nat → Int32) (z1 : Option Value), (∀ J, fH I J → mf f J → Q none (br_hp n J L)) → fH I J → mf f J → br_r (d + 37) 217 14 [some (.ref 169), z1] [] (br_hp n J L) Q := fun f J z1 K fJ m => rb_M_readRule_14 ⟨fun _ => rb_M_readRule_33 (br_f m.1 (K J fJ m)), fun _ => rs_M_failsF m.1 (rb_M_readRule_33 (br_f m.1 (K J fJ m)))⟩
  have fell68 : ∀ (f : pt_F) (J : Nat → Nat → Int32), (∀ J, fH I J → mf f J → Q none (br_hp n J L)) → fH I J → mf f J → br_r (d + 37) 217 68 [some (.ref 169), some (.int (nI c))] [] (br_hp n J L) Q := by
    intro f J K fJ m
    refine rb_M_readRule_68 ?_
    rw [nI_add, nI_clamp (by omega)]
    exact ⟨vp_in_nI (by omega) (by omega), rs_M_needsF (mf_u m).1 (rb_M_readRule_87 (K _ (fH_u (fH_u fJ)) (mf_u (mf_u m))))⟩
  refine rb_M_readRule_0 (rs_M_is (k := 18) M v e12 (by omega) (rb_M_readRule_6 ?_))
  rw [bu_nI0, decide_eq_false_iff_not]
  refine ⟨fun e => ?_, fun e => ?_⟩
  · have h18 := Classical.not_not.mp e
    rw [if_neg e] at H0 H1
    refine rb_M_readRule_14 ?_
    rw [h104, nI_eq (a := c) (b := 12) (by omega) (by omega)]
    refine ⟨fun h12 => ?_, fun h12 => ?_⟩
    · rw [if_neg h12] at H0 H1
      obtain ⟨t, r, ets⟩ := tk_hd_c h18 (by omega)
      have M' := M
      rw [ets] at M'
      refine rb_M_readRule_33 (br_t e12 (rs_M_next (d := d + 29) M' (fun J1 f1 M1 => rb_M_readRule_45 ?_)))
      have er : ts.tail = r := by rw [ets]; rfl
      rw [er] at H0 H1
      have v1 : tk_vd r := by rw [← er]; exact tk_vd_t v
      have sm1 : tk_sm r := by rw [← er]; exact tk_sm_t sm
      have j12 : J1 169 12 = nI 0 := by rw [f1 169 12 (by omega)]; exact e12
      have j14 : J1 169 14 = nI 0 := by rw [f1 169 14 (by omega)]; exact e14
      have ok1 := tk_ok_tl ok h18 (by omega)
      rw [if_pos (by omega), er] at ok1
      have F1 : fH I J1 := fH_N f1
      refine rs_M_needs (d := d + 27) (k := 19) M1 v1 j12 (by omega) (by omega) (fun fa hf J2 f2 m2 => rb_M_readRule_51 ?_) (fun t1 ht1 J2 f2 M2 => rb_M_readRule_51 ?_)
      · rw [nI_add, nI_clamp (by omega)]
        exact ⟨vp_in_nI (by omega) (by omega), rs_M_testF (d := d + 33) (mf_u m2).1 (fell68 fa _ (H0 fa (sb_l hf)) (fH_u (fH_t F1 (fH_M f2))) (mf_u m2))⟩
      · rw [sb_r ht1] at H0 H1
        obtain ⟨a1, a2⟩ := pt_k_t ht1
        have ok2 := tk_ok_tl ok1 a2 (by omega)
        rw [if_pos (by omega), ← a1] at ok2
        have v2 : tk_vd t1 := by rw [a1]; exact tk_vd_t v1
        have sm2 : tk_sm t1 := by rw [a1]; exact tk_sm_t sm1
        have F2 : fH I J2 := fH_t F1 (fH_N f2)
        have mc2 := mC_c (mC_c mc (fN_M f1)) (fN_M f2)
        have k2 : ∀ j, J2 174 j = I 174 j := fun j => by rw [f2 174 j (by omega), f1 174 j (by omega)]
        rw [nI_add, nI_clamp (by omega), mc2.1]
        refine ⟨vp_in_nI (by omega) (by omega), ?_⟩
        have sp : mSp (d + 36) n L b N 0 218 [some (.ref 169)] (pr_test N) := rs_M_test (D := d + 24) (pr_ch_good (N := N) (op := 21) (Or.inr rfl) (by omega) (pr_f_good 8)) (rs_M_part (D := d + 24) (pr_f_good 8) (rs_M_ft 8 (by omega) d))
        refine sp _ _ t1 os (p + 2 + 2) (tk_Mr_c M2 (fun p j q => br_u_n (by omega))) v2 sm2 ok2 (by omega) (by rw [br_u_n (by omega), f2 169 12 (by omega)]; exact j12) (by rw [br_u_n (by omega), f2 169 14 (by omega)]; exact j14) (mC_u mc2 (by omega)) (fun fa hf J3 f3 m3 => fell68 fa J3 (H0 fa (sb_l hf)) (fH_t (fH_u F2) (fH_G f3)) m3) (fun x hx J3 f3 M3 k12 k14 mc3 => rb_M_readRule_68 ?_)
        rw [sb_r hx] at H0 H1
        obtain ⟨seg, p', g1, g2, g3, ⟨k1, g4⟩, g5⟩ := pr_test_good _ _ _ _ ok2 hx
        have v3 : tk_vd x.1 := by rw [g4]; exact tk_vd_d v2 k1
        have F3 := fH_t (fH_u (k := 105 + c) (x := nI os.length) F2) (fH_G f3)
        rw [nI_add, nI_clamp (by omega), mc3.1]
        refine ⟨vp_in_nI (by omega) (by omega), rs_M_needs (d := d + 27) (k := 44) (tk_Mr_c M3 (fun p j q => br_u_n (by omega))) v3 (by rw [br_u_n (by omega)]; exact k12) (by omega) (by omega) (fun fa hf J4 f4 m4 => rb_M_readRule_87 (H0 fa (sb_l hf) _ (fH_u (fH_t (fH_u F3) (fH_M f4))) (mf_u m4))) (fun t2 ht2 J4 f4 M4 => rb_M_readRule_87 ?_)⟩
        have j104 : J4 174 104 = nI c := by rw [f4 174 104 (by omega), br_u_n (by omega), f3 174 104 (by omega) (by omega), br_u_n (by omega), k2]; exact h104
        rw [j104, nI_add]
        refine H1 _ (sb_r ht2) _ (fH_u (fH_t (fH_u F3) (fH_N f4))) (tk_Mr_c M4 (fun p j q => br_u_n (by omega))) ?_ ?_ (mC_u (mC_c (mC_u mc3 (by omega)) (fN_M f4)) (by omega)) br_u_s ?_ ?_ (fun j q1 q2 q3 q4 => ?_)
        · rw [br_u_n (by omega), f4 169 12 (by omega), br_u_n (by omega)]; exact k12
        · rw [br_u_n (by omega), f4 169 14 (by omega), br_u_n (by omega)]; exact k14
        · rw [br_u_n (by omega), f4 174 _ (by omega), br_u_n (by omega), f3 174 _ (by omega) (by omega), br_u_s]
        · rw [br_u_n (by omega), f4 174 _ (by omega), br_u_s]
        · rw [br_u_n (by omega), f4 174 _ (by omega), br_u_n (by omega), f3 174 _ (by omega) (by omega), br_u_n (by omega), k2]
    · rw [if_pos (Classical.not_not.mp h12)] at H0
      exact rs_M_fails (by omega) (by omega) M v e12 (fun J f1 f2 => rb_M_readRule_33 (br_f f2.1 (H0 _ rfl J (fH_M f1) f2)))
  · rw [if_pos (Classical.not_not.mp e)] at H0
    exact rs_M_fails (by omega) (by omega) M v e12 (fun J f1 f2 => fell14 _ J _ (H0 _ rfl) (fH_M f1) f2)
def mI (c : Nat) (fr : Nat → Nat) (J : Nat → Nat → Int32) : Prop := J 174 104 = nI c ∧ ∀ r, r < c → J 174 (105 + r) = nI (fr r) ∧ J 174 (117 + r) = nI (fr (r + 1))
def mR (c : Nat) (os : pr_O) (fr : Nat → Nat) (J : Nat → Nat → Int32) : Prop := J 171 104 = nI c ∧ (∀ r, r < c → J 171 (105 + r) = nI (fr r) ∧ J 171 (117 + r) = nI (fr (r + 1))) ∧ ∀ i t, os[i]? = some t → J 171 (129 + 2 * i) = nI t.1 ∧ J 171 (130 + 2 * i) = nI t.2
theorem rs_M_rules {z3 z4 z5 : Option Value} (ho : br_odx I) (h : tk_B b N I)
    (H0 : ∀ f, pr_all N 13 0 (tk_l b N N 0) [] (fun _ => 0) = .inl f → ∀ J, (∀ p j, ¬ (p = 169 ∧ 6 ≤ j ∧ j ≤ 17) → p ≠ 174 → ¬ (p = 170 ∧ j = 1) → J p j = I p j) → J 169 6 = nI 0 → J 169 16 = nI f.1 → J 169 17 = nI f.2 → J 170 1 = I 170 1 + nI 1 → Q (some (.int (-(nI 10) - nI f.1))) (br_hp n J L))
    (H1 : ∀ y, pr_all N 13 0 (tk_l b N N 0) [] (fun _ => 0) = .inr y → ∀ J, (∀ p j, ¬ (p = 169 ∧ 6 ≤ j ∧ j ≤ 17) → p ≠ 174 → ¬ (p = 171 ∧ 104 ≤ j ∧ j < 629) → J p j = I p j) → J 169 6 = nI 0 → J 169 16 = nI 0 → J 169 17 = -(nI 1) → mR y.1 y.2.1 y.2.2 J → Q (some (.int (nI y.1))) (br_hp n J L)) :
    br_r (d + 38) 203 33 [some (.ref 169), some (.int (nI 1)), some (.int (nI N)), z3, z4, z5] [.int (nI 1)] (br_hp n I L) Q := by
  have hN := h.1
  have loop : ∀ f c (ts : List tk_T) (os : pr_O) (fr : Nat → Nat) (p : Nat) (J : Nat → Nat → Int32) (z2 z3 z4 z5 : Option Value), c + f = 13 → c ≤ 12 → (∀ p j, ¬ (p = 169 ∧ 6 ≤ j ∧ j ≤ 15) → p ≠ 174 → J p j = I p j) → tk_Mr b N ts J → tk_vd ts → tk_sm ts → tk_ok N ts p → 2 * os.length ≤ p → J 169 6 = nI 0 → J 169 12 = nI 0 → J 169 14 = nI 0 → mC os J → mI c fr J → fr c = os.length → pr_all N f c ts os fr = pr_all N 13 0 (tk_l b N N 0) [] (fun _ => 0) →
      br_r (d + 38) 203 111 [some (.ref 169), some (.int (nI 1)), z2, z3, z4, z5] [] (br_hp n J L) Q := by
    intro f
    induction f with
    | zero => intro c ts os fr p J z2 z3 z4 z5 hc hc12; omega
    | succ f ih =>
      intro c ts os fr p J z2 z3 z4 z5 hc hc12 hJ M v sm ok b2 e6 e12 e14 mc mi ef he
      have hpN := tk_ok_N ok
      refine rb_M_text_111 (br_f (fun z => z e12) ?_)
      rw [M.2.2.2.2.2.1]
      have c34 : nI (tk_k (tk_hd N ts).1) = nI 34 ↔ (tk_hd N ts).1 = 42 := tk_eq (j := 42) (tk_vd_h v) (by omega)
      rw [c34]
      refine ⟨fun h42 => ?_, fun h42 => br_t br_10 ?_⟩
      · have e0 : pr_all N (f + 1) c ts os fr = .inr (c, os, fr) := if_pos h42
        rw [e0] at he
        refine rs_M_tailT (w := 1) (lo := 104) (hi := 629) (Or.inr ⟨rfl, rfl, rfl⟩) e12 (fun J2 f2 a16 a17 a171 => ?_)
        rw [if_neg (by omega), mi.1]
        refine H1 _ he.symm J2 (fun p j q1 q2 q3 => by rw [f2 p j (by omega) q3]; exact hJ p j (by omega) q2) (by rw [f2 169 6 (by omega) (by omega)]; exact e6) a16 a17 ⟨?_, fun r hr => ?_, fun i t e => ?_⟩
        · rw [a171 104 (by omega) (by omega)]; exact mi.1
        · have hr' : r < c := hr
          rw [a171 (105 + r) (by omega) (by omega), a171 (117 + r) (by omega) (by omega)]; exact mi.2 r hr'
        · have h5 : i < os.length := (List.getElem?_eq_some_iff.mp e).1
          rw [a171 (129 + 2 * i) (by omega) (by omega), a171 (130 + 2 * i) (by omega) (by omega)]; exact mc.2 i t e
      · rw [pr_all_s h42] at he
        refine rs_M_rule M v sm ok b2 e12 e14 mc mi.1 hc12 (fun fa hf J2 f2 m2 => rb_M_text_142 (rb_M_text_111 (br_t m2.1 (rs_M_tailF m2 (fun J3 f3 a16 a17 a170 => H0 fa (by rw [← he]; exact sb_l hf) J3 (fun p j q1 q2 q3 => ?_) ?_ a16 a17 ?_))))) (fun y hy J2 f2 M2 k12 k14 mc2 k104 k105 k117 kk => rb_M_text_142 ?_)
        · rw [f3 p j (by omega) (by omega), f2 p j (by omega) q2]; exact hJ p j (by omega) q2
        · rw [f3 169 6 (by omega) (by omega), f2 169 6 (by omega) (by omega)]; exact e6
        · rw [a170, f2 170 1 (by omega) (by omega), hJ 170 1 (by omega) (by omega)]
        · rw [sb_r hy] at he
          obtain ⟨c12, seg, p', g1, g2, g3, ⟨k1, g4⟩, g5⟩ := pr_one_good ok b2 hc12 hy
          refine ih (c + 1) y.1 y.2 _ p' J2 _ _ _ _ (by omega) (by omega) (fun p j q1 q2 => ?_) M2 (by rw [g4]; exact tk_vd_d v k1) (by rw [g4]; exact tk_sm_d sm k1) g2 g3 ?_ k12 k14 mc2 ⟨k104, fun r hr => ?_⟩ br_v_s he
          · rw [f2 p j (by omega) q2]; exact hJ p j q1 q2
          · rw [f2 169 6 (by omega) (by omega)]; exact e6
          · by_cases e : r = c
            · subst e
              rw [br_v_s, br_v_j (by omega), ef]; exact ⟨k105, k117⟩
            · rw [br_v_j (by omega), br_v_j (by omega), kk (105 + r) (by omega) (by omega) (by omega) (by omega), kk (117 + r) (by omega) (by omega) (by omega) (by omega)]
              exact mi.2 r (by omega)
  refine rs_M_head (d := d + 30) ho h (fun J z2 z3 z4 z5 f M e6 e12 e14 e15 fresh => ?_)
  have okl := tk_l_ok (b := b) (n := N) N 0 (Nat.zero_le _)
  refine loop 13 0 (tk_l b N N 0) [] (fun _ => 0) 0 J _ _ _ _ (by omega) (by omega) f M (tk_ok_vd okl) (tk_l_sm hN N 0) okl (Nat.le_refl _) e6 e12 e14 ⟨e15, fun i t e => by cases e⟩ ⟨?_, fun r hr => absurd hr (by omega)⟩ rfl rfl
  rw [fresh 104 (by omega), if_neg (by omega)]
end
