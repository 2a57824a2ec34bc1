set_option maxRecDepth 100000
set_option maxHeartbeats 4000000
/-! the model reads a test -/
def mC (os : pr_O) (J : Nat → Nat → Int32) : Prop := J 169 15 = nI os.length ∧ ∀ i t, os[i]? = some t → J 174 (129 + 2 * i) = nI t.1 ∧ J 174 (130 + 2 * i) = nI t.2
def fG (I J : Nat → Nat → Int32) : Prop := ∀ p j, ¬ (p = 169 ∧ 7 ≤ j ∧ j ≤ 15) → ¬ (p = 174 ∧ 129 ≤ j) → J p j = I p j
section
variable {d n D : Nat} {Q : br_Q} {I J : Nat → Nat → Int32} {L : Nat → Nat → Int64} {b : Nat → Nat} {N : Nat} {ts : List tk_T}
theorem fG_M (h : fM I J) : fG I J := fun p j q1 _ => h p j (by omega)
theorem fG_N (h : fN I J) : fG I J := fG_M (fN_M h)
theorem fG_t {K : Nat → Nat → Int32} (h : fG I J) (h2 : fG J K) : fG I K := fun p j q1 q2 => by rw [h2 p j q1 q2, h p j q1 q2]
theorem mC_c {os : pr_O} (h : mC os I) (h2 : fM I J) : mC os J := ⟨by rw [h2 169 15 (by omega)]; exact h.1, fun i t e => by rw [h2 174 _ (by omega), h2 174 _ (by omega)]; exact h.2 i t e⟩
theorem mf_c {f : pt_F} (h : mf f I) (h2 : ∀ j, j = 12 ∨ j = 13 → J 169 j = I 169 j) : mf f J := ⟨by rw [h2 12 (by omega)]; exact h.1, by rw [h2 12 (by omega)]; exact h.2.1, by rw [h2 13 (by omega)]; exact h.2.2⟩
theorem rs_M_emit {k v : Nat} {os : pr_O} (h : mC os I) (hz : os.length < 250) (H : ∀ J, (∀ p j, ¬ (p = 169 ∧ j = 15) → ¬ (p = 174 ∧ 129 + 2 * os.length ≤ j) → J p j = I p j) → mC (os ++ [(k, v)]) J → Q none (br_hp n J L)) :
    br_r d 221 0 [some (.ref 169), some (.int (nI k)), some (.int (nI v))] [] (br_hp n I L) Q := by
  obtain ⟨h1, h2⟩ := h
  refine rb_M_emit_0 ?_
  simp (disch := omega) only [br_u_n, h1, pk_mul, nI_add, nI_clamp]
  refine ⟨vp_in_nI (by omega) (by omega), vp_in_nI (by omega) (by omega), H _ (fun p j q1 q2 => by rw [br_u_n (by omega), br_u_n (by omega), br_u_n (by omega)]) ⟨?_, fun i t e => ?_⟩⟩
  · rw [br_u_s, List.length_append]; rfl
  · by_cases hi : i < os.length
    · rw [List.getElem?_append_left hi] at e
      rw [br_u_n (by omega), br_u_n (by omega), br_u_n (by omega), br_u_n (by omega), br_u_n (by omega), br_u_n (by omega)]
      exact h2 i t e
    · have h5 : i < (os ++ [(k, v)]).length := (List.getElem?_eq_some_iff.mp e).1
      rw [List.length_append] at h5
      have l1 : [(k, v)].length = 1 := rfl
      have h6 : i = os.length := by omega
      subst h6
      rw [List.getElem?_append_right (Nat.le_refl _), Nat.sub_self] at e
      have e : (k, v) = t := Option.some.inj e
      rw [← e]
      refine ⟨by rw [br_u_n (by omega), br_u_n (by omega), br_u_s], ?_⟩
      rw [br_u_n (by omega), show 129 + 2 * os.length + 1 = 130 + 2 * os.length by omega, br_u_s]
/-- what a piece does, in the model -/
def mSp (D n : Nat) (L : Nat → Nat → Int64) (b : Nat → Nat) (N dep jm : Nat) (args : br_V) (sub : pr_S) : Prop := ∀ (Q : br_Q) (I : Nat → Nat → Int32) (ts : List tk_T) (os : pr_O) (p : Nat), tk_Mr b N ts I → tk_vd ts → tk_sm ts → tk_ok N ts p → 2 * os.length ≤ p → I 169 12 = nI 0 → I 169 14 = nI dep → mC os I →
  (∀ f, sub ts os = .inl f → ∀ J, fG I J → mf f J → Q none (br_hp n J L)) →
  (∀ y, sub ts os = .inr y → ∀ J, fG I J → tk_Mr b N y.1 J → J 169 12 = nI 0 → J 169 14 = nI dep → mC y.2 J → Q none (br_hp n J L)) → br_r D jm 0 args [] (br_hp n I L) Q
theorem rs_M_part {m dep : Nat} {sub : pr_S} (hg : pr_good N m sub) (hsub : mSp (D + 10) n L b N dep 220 [some (.ref 169), none, none, none] sub) : mSp (D + 11) n L b N dep 219 [some (.ref 169)] (pr_ch N 21 sub) := by
  intro Q I ts os p M v sm ok b2 e12 e14 mc H0 H1
  unfold pr_ch at H0 H1
  have loop : ∀ f (ts : List tk_T) (os : pr_O) (J : Nat → Nat → Int32) (p : Nat), N ≤ p + 2 * f + 1 → fG I J → tk_Mr b N ts J → tk_vd ts → tk_sm ts → tk_ok N ts p → 2 * os.length ≤ p → J 169 12 = nI 0 → J 169 14 = nI dep → mC os J → (∀ fa, pr_lp N 21 sub f ts os = .inl fa → ∀ J, fG I J → mf fa J → Q none (br_hp n J L)) → (∀ y, pr_lp N 21 sub f ts os = .inr y → ∀ J, fG I J → tk_Mr b N y.1 J → J 169 12 = nI 0 → J 169 14 = nI dep → mC y.2 J → Q none (br_hp n J L)) →
      br_r (D + 11) 219 4 [some (.ref 169)] [] (br_hp n J L) Q := by
    intro f
    induction f with
    | zero =>
      intro ts os J p hf fJ M v sm ok b2 e12 e14 mc K0 K1
      refine rb_M_readPart_4 (rs_M_eats (d := D + 2) (k := 21) M v e12 (by omega) (by omega) (fun e => rb_M_readPart_10 (br_t rfl (K1 _ rfl J fJ M e12 e14 mc))) (fun e J1 f1 M1 => ?_))
      have ok1 := tk_ok_tl ok e (by omega)
      rw [if_pos (by omega)] at ok1
      have := tk_ok_N ok1
      omega
    | succ f ih =>
      intro ts os J p hf fJ M v sm ok b2 e12 e14 mc K0 K1
      refine rb_M_readPart_4 (rs_M_eats (d := D + 2) (k := 21) M v e12 (by omega) (by omega) (fun e => rb_M_readPart_10 (br_t rfl (K1 _ (pr_lp_F e) J fJ M e12 e14 mc))) (fun e J1 f1 M1 => rb_M_readPart_10 (br_f br_10 ?_)))
      rw [pr_lp_T e] at K0 K1
      have ok1 := tk_ok_tl ok e (by omega)
      rw [if_pos (by omega)] at ok1
      have fJ1 := fG_t fJ (fG_N f1)
      have hN := M.1.1
      refine hsub _ J1 ts.tail os (p + 2) M1 (tk_vd_t v) (tk_sm_t sm) ok1 (by omega) (by rw [f1 169 12 (by omega)]; exact e12) (by rw [f1 169 14 (by omega)]; exact e14) (mC_c mc (fN_M f1)) (fun fa hf J2 f2 m2 => rb_M_readPart_17 (br_t m2.1 (rb_M_readPart_4 (rs_M_eatsF m2.1 (rb_M_readPart_10 (br_t rfl (K0 fa (sb_l hf) J2 (fG_t fJ1 f2) m2))))))) (fun x hx J2 f2 M2 j12 j14 mc2 => rb_M_readPart_17 (br_f (fun z => z j12) ?_))
      rw [sb_r hx] at K0 K1
      obtain ⟨seg, p', g1, g2, g3, ⟨k1, g4⟩, g5⟩ := hg _ _ _ _ ok1 hx
      have hpN := tk_ok_N g2
      have el : x.2.length = os.length + seg.length := by rw [g1, List.length_append]
      refine rs_M_emit (v := 0) mc2 (by omega) (fun J3 f3 mc3 => rb_M_readPart_31 ?_)
      refine ih x.1 (x.2 ++ [(21, 0)]) J3 p' (by omega) (fG_t (fG_t fJ1 f2) (fun p j q1 q2 => f3 p j (by omega) (by omega))) (tk_Mr_c M2 (fun p j q => f3 p j (by omega) (by omega))) (by rw [g4]; exact tk_vd_d (tk_vd_t v) k1) (by rw [g4]; exact tk_sm_d (tk_sm_t sm) k1) g2 (by rw [List.length_append]; show 2 * (x.2.length + 1) ≤ p'; omega) (by rw [f3 169 12 (by omega) (by omega)]; exact j12) (by rw [f3 169 14 (by omega) (by omega)]; exact j14) mc3 K0 K1
  have hN := M.1.1
  refine rb_M_readPart_0 (hsub _ I ts os p M v sm ok b2 e12 e14 mc (fun f hf J f1 m1 => rb_M_readPart_4 (rs_M_eatsF m1.1 (rb_M_readPart_10 (br_t rfl (H0 f (sb_l hf) J f1 m1))))) (fun x hx J f1 M1 j12 j14 mc1 => ?_))
  rw [sb_r hx] at H0 H1
  obtain ⟨seg, p', g1, g2, g3, ⟨k1, g4⟩, g5⟩ := hg _ _ _ _ ok hx
  have el : x.2.length = os.length + seg.length := by rw [g1, List.length_append]
  exact loop 400 x.1 x.2 J p' (by omega) f1 M1 (by rw [g4]; exact tk_vd_d v k1) (by rw [g4]; exact tk_sm_d sm k1) g2 (by omega) j12 j14 mc1 H0 H1
theorem rs_M_test {m dep : Nat} {sub : pr_S} (hg : pr_good N m sub) (hsub : mSp (D + 11) n L b N dep 219 [some (.ref 169)] sub) : mSp (D + 12) n L b N dep 218 [some (.ref 169)] (pr_ch N 20 sub) := by
  intro Q I ts os p M v sm ok b2 e12 e14 mc H0 H1
  unfold pr_ch at H0 H1
  have loop : ∀ f (ts : List tk_T) (os : pr_O) (J : Nat → Nat → Int32) (p : Nat), N ≤ p + 2 * f + 1 → fG I J → tk_Mr b N ts J → tk_vd ts → tk_sm ts → tk_ok N ts p → 2 * os.length ≤ p → J 169 12 = nI 0 → J 169 14 = nI dep → mC os J → (∀ fa, pr_lp N 20 sub f ts os = .inl fa → ∀ J, fG I J → mf fa J → Q none (br_hp n J L)) → (∀ y, pr_lp N 20 sub f ts os = .inr y → ∀ J, fG I J → tk_Mr b N y.1 J → J 169 12 = nI 0 → J 169 14 = nI dep → mC y.2 J → Q none (br_hp n J L)) →
      br_r (D + 12) 218 4 [some (.ref 169)] [] (br_hp n J L) Q := by
    intro f
    induction f with
    | zero =>
      intro ts os J p hf fJ M v sm ok b2 e12 e14 mc K0 K1
      refine rb_M_readTest_4 (rs_M_eats (d := D + 3) (k := 20) M v e12 (by omega) (by omega) (fun e => rb_M_readTest_10 (br_t rfl (K1 _ rfl J fJ M e12 e14 mc))) (fun e J1 f1 M1 => ?_))
      have ok1 := tk_ok_tl ok e (by omega)
      rw [if_pos (by omega)] at ok1
      have := tk_ok_N ok1
      omega
    | succ f ih =>
      intro ts os J p hf fJ M v sm ok b2 e12 e14 mc K0 K1
      refine rb_M_readTest_4 (rs_M_eats (d := D + 3) (k := 20) M v e12 (by omega) (by omega) (fun e => rb_M_readTest_10 (br_t rfl (K1 _ (pr_lp_F e) J fJ M e12 e14 mc))) (fun e J1 f1 M1 => rb_M_readTest_10 (br_f br_10 ?_)))
      rw [pr_lp_T e] at K0 K1
      have ok1 := tk_ok_tl ok e (by omega)
      rw [if_pos (by omega)] at ok1
      have fJ1 := fG_t fJ (fG_N f1)
      have hN := M.1.1
      refine hsub _ J1 ts.tail os (p + 2) M1 (tk_vd_t v) (tk_sm_t sm) ok1 (by omega) (by rw [f1 169 12 (by omega)]; exact e12) (by rw [f1 169 14 (by omega)]; exact e14) (mC_c mc (fN_M f1)) (fun fa hf J2 f2 m2 => rb_M_readTest_17 (br_t m2.1 (rb_M_readTest_4 (rs_M_eatsF m2.1 (rb_M_readTest_10 (br_t rfl (K0 fa (sb_l hf) J2 (fG_t fJ1 f2) m2))))))) (fun x hx J2 f2 M2 j12 j14 mc2 => rb_M_readTest_17 (br_f (fun z => z j12) ?_))
      rw [sb_r hx] at K0 K1
      obtain ⟨seg, p', g1, g2, g3, ⟨k1, g4⟩, g5⟩ := hg _ _ _ _ ok1 hx
      have hpN := tk_ok_N g2
      have el : x.2.length = os.length + seg.length := by rw [g1, List.length_append]
      refine rs_M_emit (v := 0) mc2 (by omega) (fun J3 f3 mc3 => rb_M_readTest_31 ?_)
      refine ih x.1 (x.2 ++ [(20, 0)]) J3 p' (by omega) (fG_t (fG_t fJ1 f2) (fun p j q1 q2 => f3 p j (by omega) (by omega))) (tk_Mr_c M2 (fun p j q => f3 p j (by omega) (by omega))) (by rw [g4]; exact tk_vd_d (tk_vd_t v) k1) (by rw [g4]; exact tk_sm_d (tk_sm_t sm) k1) g2 (by rw [List.length_append]; show 2 * (x.2.length + 1) ≤ p'; omega) (by rw [f3 169 12 (by omega) (by omega)]; exact j12) (by rw [f3 169 14 (by omega) (by omega)]; exact j14) mc3 K0 K1
  have hN := M.1.1
  refine rb_M_readTest_0 (hsub _ I ts os p M v sm ok b2 e12 e14 mc (fun f hf J f1 m1 => rb_M_readTest_4 (rs_M_eatsF m1.1 (rb_M_readTest_10 (br_t rfl (H0 f (sb_l hf) J f1 m1))))) (fun x hx J f1 M1 j12 j14 mc1 => ?_))
  rw [sb_r hx] at H0 H1
  obtain ⟨seg, p', g1, g2, g3, ⟨k1, g4⟩, g5⟩ := hg _ _ _ _ ok hx
  have el : x.2.length = os.length + seg.length := by rw [g1, List.length_append]
  exact loop 400 x.1 x.2 J p' (by omega) f1 M1 (by rw [g4]; exact tk_vd_d v k1) (by rw [g4]; exact tk_sm_d sm k1) g2 (by omega) j12 j14 mc1 H0 H1
theorem tk_ask : ∀ w, w < 28 → (w = 23 ∨ pr_ask w = true) → tk_k w = w := by decide +kernel
theorem rs_M_leaf {dep p : Nat} {os : pr_O} {z1 z2 z3 : Option Value} (M : tk_Mr b N ts I) (v : tk_vd ts) (sm : tk_sm ts) (ok : tk_ok N ts p) (b2 : 2 * os.length ≤ p) (e12 : I 169 12 = nI 0) (e14 : I 169 14 = nI dep) (mc : mC os I) (n45 : ¬ (tk_hd N ts).1 = 45) (n22 : ¬ (tk_hd N ts).1 = 22)
    (H0 : ∀ f, pr_leaf N ts os = .inl f → ∀ J, fG I J → mf f J → Q none (br_hp n J L))
    (H1 : ∀ y, pr_leaf N ts os = .inr y → ∀ J, fG I J → tk_Mr b N y.1 J → J 169 12 = nI 0 → J 169 14 = nI dep → mC y.2 J → Q none (br_hp n J L)) : br_r (d + 9) 220 0 [some (.ref 169), z1, z2, z3] [] (br_hp n I L) Q := by
  have hv := tk_vd_h (N := N) v
  have hN := M.1.1
  have hpN := tk_ok_N ok
  have a8 := M.2.2.2.2.2.1
  unfold pr_leaf at H0 H1
  -- the fact stands
  have go : ∀ (z2 z3 : Option Value), (tk_hd N ts).1 = 23 ∨ pr_ask (tk_hd N ts).1 = true → z2 = some (.int (nI (if (tk_hd N ts).1 = 23 then 0 else 1))) → br_r (d + 9) 220 169 [some (.ref 169), some (.int (nI (tk_k (tk_hd N ts).1))), z2, z3] [] (br_hp n I L) Q := by
    intro z2 z3 hask ez2
    have hlt : (tk_hd N ts).1 < 28 := by
      rcases hask with h | h
      · omega
      · have := of_decide_eq_true h; omega
    have ek := tk_ask _ hlt hask
    rw [ek, ez2]
    obtain ⟨t, r, ets⟩ := tk_hd_c (N := N) (ts := ts) rfl (by omega)
    have M' := M
    rw [ets] at M'
    refine rb_M_readFact_169 (br_t e12 (rs_M_next (d := d + 1) M' (fun J1 f1 M1 => rb_M_readFact_181 ?_)))
    have er : ts.tail = r := by rw [ets]; rfl
    rw [er] at H0 H1
    have v1 : tk_vd r := by rw [← er]; exact tk_vd_t v
    have sm1 : tk_sm r := by rw [← er]; exact tk_sm_t sm
    have j12 : J1 169 12 = nI 0 := by rw [f1 169 12 (by omega)]; exact e12
    have j14 : J1 169 14 = nI dep := by rw [f1 169 14 (by omega)]; exact e14
    have mc1 := mC_c mc (fN_M f1)
    generalize hw : (tk_hd N ts).1 = w at *
    have c24 : nI w = nI 24 ↔ w = 24 := nI_eq (by omega) (by omega)
    have c25 : nI w = nI 25 ↔ w = 25 := nI_eq (by omega) (by omega)
    have c11 : nI w = nI 11 ↔ w = 11 := nI_eq (by omega) (by omega)
    by_cases h23 : w = 23
    · subst h23
      rw [if_pos rfl] at H1
      refine br_f (fun z => z rfl) (rb_M_readFact_245 (br_f (fun z => z j12) (rs_M_emit mc1 (by omega) (fun J2 f2 mc2 => rb_M_readFact_259 (H1 _ rfl J2 (fG_t (fG_N f1) (fun p j q1 q2 => f2 p j (by omega) (by omega))) (tk_Mr_c M1 (fun p j q => f2 p j (by omega) (by omega))) (by rw [f2 169 12 (by omega) (by omega)]; exact j12) (by rw [f2 169 14 (by omega) (by omega)]; exact j14) mc2)))))
    · have hask' : pr_ask w = true := by
        rcases hask with h | h
        · exact absurd h h23
        · exact h
      have hw2 := of_decide_eq_true hask'
      rw [if_neg h23, if_pos hask'] at H0 H1
      have hhi : pr_hi w ≤ 200 := by unfold pr_hi; repeat' split
                                     all_goals omega
      have hlo : pr_lo w ≤ 1 := by unfold pr_lo; split <;> omega
      have at245 : ∀ (v0 : Int32) (J2 : Nat → Nat → Int32) (z2 z3 : Option Value), (∃ f, pt_n (pr_lo w) (pr_hi w) N r = .inl f ∧ fM J1 J2 ∧ mf f J2) ∨ (∃ x, pt_n (pr_lo w) (pr_hi w) N r = .inr x ∧ fN J1 J2 ∧ tk_Mr b N x.2 J2 ∧ v0 = nI x.1) → br_r (d + 9) 220 245 [some (.ref 169), some (.int (nI w)), z2, z3] [.int v0] (br_hp n J2 L) Q := by
        intro v0 J2 z2 z3 h
        rcases h with ⟨f, hf, f2, m2⟩ | ⟨x, hx, f2, M2, ev⟩
        · exact rb_M_readFact_245 (br_t m2.1 (rb_M_readFact_259 (H0 f (sb_l hf) J2 (fG_t (fG_N f1) (fG_M f2)) m2)))
        · rw [ev]
          have k12 : J2 169 12 = nI 0 := by rw [f2 169 12 (by omega)]; exact j12
          have k14 : J2 169 14 = nI dep := by rw [f2 169 14 (by omega)]; exact j14
          exact rb_M_readFact_245 (br_f (fun z => z k12) (rs_M_emit (mC_c mc1 (fN_M f2)) (by omega) (fun J3 f3 mc3 => rb_M_readFact_259 (H1 _ (sb_r hx) J3 (fG_t (fG_t (fG_N f1) (fG_N f2)) (fun p j q1 q2 => f3 p j (by omega) (by omega))) (tk_Mr_c M2 (fun p j q => f3 p j (by omega) (by omega))) (by rw [f3 169 12 (by omega) (by omega)]; exact k12) (by rw [f3 169 14 (by omega) (by omega)]; exact k14) mc3))))
      have rd : ∀ (Q' : br_Q), (∀ v0 J2, (∃ f, pt_n (pr_lo w) (pr_hi w) N r = .inl f ∧ fM J1 J2 ∧ mf f J2) ∨ (∃ x, pt_n (pr_lo w) (pr_hi w) N r = .inr x ∧ fN J1 J2 ∧ tk_Mr b N x.2 J2 ∧ v0 = nI x.1) → Q' (some (.int v0)) (br_hp n J2 L)) → br_r (d + 8) 215 0 [some (.ref 169), some (.int (nI (pr_lo w))), some (.int (nI (pr_hi w))), none] [] (br_hp n J1 L) Q' := fun Q' K =>
        rs_M_reads (by omega) (by omega) M1 v1 sm1 j12 (fun f hf J2 v0 f2 m2 => K v0 J2 (Or.inl ⟨f, hf, f2, m2⟩)) (fun x hx J2 f2 M2 => K _ J2 (Or.inr ⟨x, hx, f2, M2, rfl⟩))
      rw [if_neg h23, c24, c25, c11]
      refine br_t br_10 ⟨fun h24 => ⟨fun h25 => ⟨fun h11 => ?_, fun h11 => ?_⟩, fun h25 => ?_⟩, fun h24 => ?_⟩
      · have e1 : pr_lo w = 0 := if_neg h25
        have e2 : pr_hi w = 200 := by unfold pr_hi; rw [if_neg h11, if_neg h24, if_neg h25]
        rw [e1, e2] at rd at245
        exact rd _ (fun v0 J2 h => at245 v0 J2 _ _ h)
      · have h11' := Classical.not_not.mp h11
        subst h11'
        exact rd _ (fun v0 J2 h => rb_M_readFact_234 (at245 v0 J2 _ _ h))
      · have h25' := Classical.not_not.mp h25
        subst h25'
        exact rd _ (fun v0 J2 h => rb_M_readFact_218 (at245 v0 J2 _ _ h))
      · have h24' := Classical.not_not.mp h24
        subst h24'
        exact rd _ (fun v0 J2 h => rb_M_readFact_202 (at245 v0 J2 _ _ h))
  have c22 : nI (tk_k (tk_hd N ts).1) = nI 22 ↔ (tk_hd N ts).1 = 22 := tk_eq (j := 22) hv (by omega)
  have c31 : nI (tk_k (tk_hd N ts).1) = nI 31 ↔ (tk_hd N ts).1 = 45 := tk_eq (j := 45) hv (by omega)
  have c24 : nI (tk_k (tk_hd N ts).1) = nI 24 ↔ (tk_hd N ts).1 = 24 := tk_eq (j := 24) hv (by omega)
  have c25 : nI (tk_k (tk_hd N ts).1) = nI 25 ↔ (tk_hd N ts).1 = 25 := tk_eq (j := 25) hv (by omega)
  have c11 : nI (tk_k (tk_hd N ts).1) = nI 11 ↔ (tk_hd N ts).1 = 11 := tk_eq (j := 11) hv (by omega)
  have c26 : nI (tk_k (tk_hd N ts).1) = nI 26 ↔ (tk_hd N ts).1 = 26 := tk_eq (j := 26) hv (by omega)
  have c27 : nI (tk_k (tk_hd N ts).1) = nI 27 ↔ (tk_hd N ts).1 = 27 := tk_eq (j := 27) hv (by omega)
  have c23 : nI (tk_k (tk_hd N ts).1) = nI 23 ↔ (tk_hd N ts).1 = 23 := tk_eq (j := 23) hv (by omega)
  have ask : ∀ (z2 : Option Value), (tk_hd N ts).1 = 11 ∨ 24 ≤ (tk_hd N ts).1 ∧ (tk_hd N ts).1 ≤ 27 → br_r (d + 9) 220 148 [some (.ref 169), some (.int (nI (tk_k (tk_hd N ts).1))), z2, z3] [] (br_hp n I L) Q := fun z2 h => rb_M_readFact_148 (go _ _ (Or.inr (decide_eq_true h)) (by rw [if_neg (by omega)]))
  refine rb_M_readFact_0 (br_t e12 ?_)
  rw [a8, c22, c31, c24, c25, c11, c26, c27, c23]
  refine br_f n22 (br_t n45 ⟨fun h => ask _ (by omega), fun h24 => ⟨fun h => ask _ (by omega), fun h25 => ⟨fun h => ask _ (by omega), fun h11 => ⟨fun h => ask _ (by omega), fun h26 => ⟨fun h27 => ⟨fun h23 => go _ _ (Or.inl h23) (by rw [if_pos h23]), fun h23 => ?_⟩, fun h27 => ask _ (by omega)⟩⟩⟩⟩⟩)
  rw [if_neg h23, if_neg (fun z => by have := of_decide_eq_true z; omega)] at H0
  exact rs_M_fails (by omega) (by omega) M v e12 (fun J f1 f2 => rb_M_readFact_169 (br_f f2.1 (H0 _ rfl J (fG_M f1) f2)))
theorem rs_M_ft : ∀ (k : Nat), k ≤ 8 → ∀ d, mSp (d + (3 * k + 10)) n L b N (8 - k) 220 [some (.ref 169), none, none, none] (pr_f N k)
  | 0, hk, d => by
    intro Q I ts os p M v sm ok b2 e12 e14 mc H0 H1
    have hv := tk_vd_h (N := N) v
    have ef : pr_f N 0 ts os = (if (tk_hd N ts).1 = 45 ∨ (tk_hd N ts).1 = 22 then .inl (tk_fail 5 (tk_hd N ts)) else pr_leaf N ts os) := rfl
    rw [ef] at H0 H1
    have c22 : nI (tk_k (tk_hd N ts).1) = nI 22 ↔ (tk_hd N ts).1 = 22 := tk_eq (j := 22) hv (by omega)
    have c31 : nI (tk_k (tk_hd N ts).1) = nI 31 ↔ (tk_hd N ts).1 = 45 := tk_eq (j := 45) hv (by omega)
    by_cases h1 : (tk_hd N ts).1 = 45 ∨ (tk_hd N ts).1 = 22
    · rw [if_pos h1] at H0
      refine rb_M_readFact_0 (br_t e12 ?_)
      rw [M.2.2.2.2.2.1, c22, c31, e14]
      have fl : br_r (d + 9) 211 0 [some (.ref 169), some (.int (nI 5))] [] (br_hp n I L) (fun v h => br_r (d + 10) 220 39 [some (.ref 169), some (.int (nI (tk_k (tk_hd N ts).1))), none, none] (v.toList ++ []) (br_bk h) Q) := rs_M_fails (by omega) (by omega) M v e12 (fun J f1 f2 => rb_M_readFact_39 (br_f f2.1 (H0 _ rfl J (fG_M f1) f2)))
      exact ⟨fun _ => br_f (fun z => z rfl) fl, fun h22 => br_f (fun z => z (by omega)) (br_f (fun z => z rfl) fl)⟩
    · rw [if_neg h1] at H0 H1
      exact rs_M_leaf (d := d + 1) M v sm ok b2 e12 e14 mc (fun z => h1 (Or.inl z)) (fun z => h1 (Or.inr z)) H0 H1
  | k + 1, hk, d => by
    intro Q I ts os p M v sm ok b2 e12 e14 mc H0 H1
    have hv := tk_vd_h (N := N) v
    have hN := M.1.1
    have hpN := tk_ok_N ok
    have ef : pr_f N (k + 1) ts os = (if (tk_hd N ts).1 = 45 then sb (pr_ch N 20 (pr_ch N 21 (pr_f N k)) ts.tail os) (fun x => sb (pt_k 46 N x.1) (fun t => .inr (t, x.2))) else if (tk_hd N ts).1 = 22 then sb (pr_f N k ts.tail os) (fun x => .inr (x.1, x.2 ++ [(22, 0)])) else pr_leaf N ts os) := rfl
    rw [ef] at H0 H1
    have c22 : nI (tk_k (tk_hd N ts).1) = nI 22 ↔ (tk_hd N ts).1 = 22 := tk_eq (j := 22) hv (by omega)
    have c31 : nI (tk_k (tk_hd N ts).1) = nI 31 ↔ (tk_hd N ts).1 = 45 := tk_eq (j := 45) hv (by omega)
    by_cases h1 : (tk_hd N ts).1 = 45 ∨ (tk_hd N ts).1 = 22
    · obtain ⟨t, r, ets⟩ := tk_hd_c (N := N) (ts := ts) rfl (by omega)
      have M' := M
      rw [ets] at M'
      have e8 : ¬ nI (8 - (k + 1)) = nI 8 := by rw [nI_eq (by omega) (by omega)]; omega
      have deep : br_r (d + (3 * (k + 1) + 10)) 220 39 [some (.ref 169), some (.int (nI (tk_k (tk_hd N ts).1))), none, none] [] (br_hp n I L) Q := by
        refine rb_M_readFact_39 (br_t e12 (rs_M_next (d := d + (3 * k + 5)) M' (fun J1 f1 M1 => rb_M_readFact_51 ?_)))
        have er : ts.tail = r := by rw [ets]; rfl
        have v1 : tk_vd r := by rw [← er]; exact tk_vd_t v
        have sm1 : tk_sm r := by rw [← er]; exact tk_sm_t sm
        have j12 : J1 169 12 = nI 0 := by rw [f1 169 12 (by omega)]; exact e12
        have j14 : J1 169 14 = nI (8 - (k + 1)) := by rw [f1 169 14 (by omega)]; exact e14
        rw [j14, nI_add, show 8 - (k + 1) + 1 = 8 - k by omega, c22]
        have fu : fG I (br_u J1 169 14 (nI (8 - k))) := fun p j q1 q2 => by rw [br_u_n (by omega)]; exact fG_N f1 p j q1 q2
        have Mu : tk_Mr b N r (br_u J1 169 14 (nI (8 - k))) := tk_Mr_c M1 (fun p j q => br_u_n (by omega))
        have mcu : mC os (br_u J1 169 14 (nI (8 - k))) := by
          have m1 := mC_c mc (fN_M f1)
          exact ⟨by rw [br_u_n (by omega)]; exact m1.1, fun i t e => by rw [br_u_n (by omega), br_u_n (by omega)]; exact m1.2 i t e⟩
        have u12 : br_u J1 169 14 (nI (8 - k)) 169 12 = nI 0 := by rw [br_u_n (by omega)]; exact j12
        have es : nI (8 - k) - nI 1 = nI (8 - (k + 1)) := by rw [pk_sub (by omega)]; congr 1
        refine ⟨fun h22 => ?_, fun h22 => ?_⟩
        · have h45 : (tk_hd N ts).1 = 45 := by omega
          rw [if_pos h45, er] at H0 H1
          have ok1 := tk_ok_tl ok h45 (by omega)
          rw [if_neg (by omega), er] at ok1
          have gd := pr_ch_good (N := N) (op := 20) (Or.inl rfl) (by omega) (pr_ch_good (N := N) (op := 21) (Or.inr rfl) (by omega) (pr_f_good (N := N) k))
          have sp := rs_M_test (D := d + 3 * k) (pr_ch_good (N := N) (op := 21) (Or.inr rfl) (by omega) (pr_f_good k)) (rs_M_part (D := d + 3 * k) (pr_f_good k) (rs_M_ft k (by omega) d))
          refine sp _ _ r os (p + 1) Mu v1 sm1 ok1 (by omega) u12 br_u_s mcu (fun fa hf J2 f2 m2 => rb_M_readFact_78 ?_) (fun x hx J2 f2 M2 k12 k14 mc2 => rb_M_readFact_78 ?_)
          · rw [c31]
            have mu : mf fa (br_u J2 169 14 (J2 169 14 - nI 1)) := mf_c m2 (fun j hj => br_u_n (by omega))
            refine br_f (fun z => z h45) (rs_M_needsF mu.1 (rb_M_readFact_100 (rb_M_readFact_117 (H0 fa (sb_l hf) _ (fG_t (fG_t fu f2) (fun p j q1 q2 => br_u_n (by omega))) mu))))
          · rw [sb_r hx] at H0 H1
            obtain ⟨seg, p', g1, g2, g3, ⟨k1, g4⟩, g5⟩ := gd _ _ _ _ ok1 hx
            have hpN2 := tk_ok_N g2
            have v2 : tk_vd x.1 := by rw [g4]; exact tk_vd_d v1 k1
            have mcu2 : mC x.2 (br_u J2 169 14 (nI (8 - (k + 1)))) := ⟨by rw [br_u_n (by omega)]; exact mc2.1, fun i t e => by rw [br_u_n (by omega), br_u_n (by omega)]; exact mc2.2 i t e⟩
            have fu2 : fG I (br_u J2 169 14 (nI (8 - (k + 1)))) := fG_t (fG_t fu f2) (fun p j q1 q2 => br_u_n (by omega))
            rw [c31, k14, es]
            refine br_f (fun z => z h45) (rs_M_needs (d := d + (3 * k + 3)) (k := 46) (tk_Mr_c M2 (fun p j q => br_u_n (by omega))) v2 (by rw [br_u_n (by omega)]; exact k12) (by omega) (by omega) (fun fa hf J3 f3 m3 => rb_M_readFact_100 (rb_M_readFact_117 (H0 fa (sb_l hf) J3 (fG_t fu2 (fG_M f3)) m3))) (fun t1 ht J3 f3 M3 => rb_M_readFact_100 (rb_M_readFact_117 (H1 _ (sb_r ht) J3 (fG_t fu2 (fG_N f3)) M3 ?_ ?_ (mC_c mcu2 (fN_M f3))))))
            · rw [f3 169 12 (by omega), br_u_n (by omega)]; exact k12
            · rw [f3 169 14 (by omega), br_u_s]
        · have h22' := Classical.not_not.mp h22
          have h45 : ¬ (tk_hd N ts).1 = 45 := by omega
          rw [if_neg h45, if_pos h22', er] at H0 H1
          have ok1 := tk_ok_tl ok h22' (by omega)
          rw [if_pos (by omega), er] at ok1
          have sp : mSp (d + (3 * k + 12)) n L b N (8 - k) 220 [some (.ref 169), none, none, none] (pr_f N k) := by
            have h0 := rs_M_ft k (by omega) (d + 2)
            rwa [show d + 2 + (3 * k + 10) = d + (3 * k + 12) by omega] at h0
          refine sp _ _ r os (p + 2) Mu v1 sm1 ok1 (by omega) u12 br_u_s mcu (fun fa hf J2 f2 m2 => rb_M_readFact_71 (rb_M_readFact_78 ?_)) (fun x hx J2 f2 M2 k12 k14 mc2 => rb_M_readFact_71 (rb_M_readFact_78 ?_))
          · rw [c31]
            have mu : mf fa (br_u J2 169 14 (J2 169 14 - nI 1)) := mf_c m2 (fun j hj => br_u_n (by omega))
            exact br_t h45 (br_t mu.1 (rb_M_readFact_117 (H0 fa (sb_l hf) _ (fG_t (fG_t fu f2) (fun p j q1 q2 => br_u_n (by omega))) mu)))
          · obtain ⟨seg, p', g1, g2, g3, ⟨k1, g4⟩, g5⟩ := pr_f_good k _ _ _ _ ok1 hx
            have hpN2 := tk_ok_N g2
            have el : x.2.length = os.length + seg.length := by rw [g1, List.length_append]
            have mcu2 : mC x.2 (br_u J2 169 14 (nI (8 - (k + 1)))) := ⟨by rw [br_u_n (by omega)]; exact mc2.1, fun i t e => by rw [br_u_n (by omega), br_u_n (by omega)]; exact mc2.2 i t e⟩
            have fu2 : fG I (br_u J2 169 14 (nI (8 - (k + 1)))) := fG_t (fG_t fu f2) (fun p j q1 q2 => br_u_n (by omega))
            have w12 : br_u J2 169 14 (nI (8 - (k + 1))) 169 12 = nI 0 := by rw [br_u_n (by omega)]; exact k12
            rw [c31, k14, es]
            refine br_t h45 (br_f (fun z => z w12) (rs_M_emit mcu2 (by omega) (fun J3 f3 mc3 => rb_M_readFact_117 (H1 _ (sb_r hx) J3 (fG_t fu2 (fun p j q1 q2 => f3 p j (by omega) (by omega))) (tk_Mr_c M2 (fun p j q => by rw [f3 p j (by omega) (by omega), br_u_n (by omega)])) ?_ ?_ mc3))))
            · rw [f3 169 12 (by omega) (by omega)]; exact w12
            · rw [f3 169 14 (by omega) (by omega), br_u_s]
      refine rb_M_readFact_0 (br_t e12 ?_)
      rw [M.2.2.2.2.2.1, c22, c31, e14]
      exact ⟨fun _ => br_t e8 deep, fun h22 => br_f (fun z => z (by omega)) (br_t e8 deep)⟩
    · rw [if_neg (fun z => h1 (Or.inl z)), if_neg (fun z => h1 (Or.inr z))] at H0 H1
      exact rs_M_leaf (d := d + (3 * k + 4)) M v sm ok b2 e12 e14 mc (fun z => h1 (Or.inl z)) (fun z => h1 (Or.inr z)) H0 H1
end
