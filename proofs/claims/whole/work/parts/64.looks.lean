set_option maxRecDepth 100000
set_option maxHeartbeats 4000000
/-- the model's rules as they stand -/
def br_rg (g : Nat → Int32) (m : Nat) (ht : Nat → Nat → Nat) : Prop := m ≤ 12 ∧ g 104 = nI m ∧ ∀ r, r < m → bu_fr g r ≤ bu_fr g (r + 1) ∧ bu_fr g (r + 1) ≤ 250 ∧ g (105 + r) = nI (bu_fr g r) ∧ g (117 + r) = nI (bu_fr g (r + 1)) ∧ ht r (bu_fr g r) = 0 ∧ ht r (bu_fr g (r + 1)) = 1 ∧
  ∀ i, bu_fr g r ≤ i → i < bu_fr g (r + 1) → ht r i ≤ 30 ∧ g (129 + 2 * i) = nI (bu_ops g i).1 ∧ g (130 + 2 * i) = nI (bu_ops g i).2 ∧ br_hs (bu_ops g i).1 (ht r i) (ht r (i + 1))
theorem br_rg_of {f : Nat → Nat → Int32} {g : Nat → Int32} (h : br_ru 9 0 f g) : ∃ m ht, br_rg g m ht := by
  obtain ⟨m, ht, h1, h2, h3, h4, h5, h6⟩ := bu_norm h
  refine ⟨m, ht, h1, h2, fun r hr => ?_⟩
  obtain ⟨q1, q2, q3, q4, q5, q6, q7, q8⟩ := h6 r hr
  refine ⟨q1, by omega, q3, q4, q6, q7, fun i h7 h8 => ?_⟩
  obtain ⟨p1, p2, p3, p4, p5, p6, p7⟩ := q8 i h7 h8
  exact ⟨p1, p4, p5, p7⟩
/-- does rule r hold of a child -/
def bm_out (g : Nat → Int32) (c a r : Nat) : Bool := bu_rn (bm_F g c a) (bu_ops g) (bu_fr g (r + 1) - bu_fr g r) (bu_fr g r) [] == [true]
def bm_end (g : Nat → Int32) (c t : Nat) : Bool := decide (g (867 + (40 * t + c)) = g 17) || decide (g (867 + (40 * t + c)) = g 18)
/-- is a child read -/
def bm_rd0 (g : Nat → Int32) (a b c : Nat) : Bool := (!decide (g (867 + (40 * a + c)) = -(nI 1)) && !decide (g (867 + (40 * b + c)) = -(nI 1))) && !bm_any g (bm_F g c a)
def bm_rd (g : Nat → Int32) (a b : Nat) (clean : Bool) (c : Nat) : Bool := bm_rd0 g a b c && !(clean && (bm_end g c a || bm_end g c b))
section
variable {d n : Nat} {Q : br_Q} {I : Nat → Nat → Int32} {L : Nat → Nat → Int64}
theorem rs_M_isOut {g : Nat → Int32} {ru c a r m : Nat} {ht : Nat → Nat → Nat} {z4 z5 z6 : Option Value} (hg : I 171 = g) (hrg : br_rg g m ht) (hru : ru < m) (hc : c < 40) (ha : a < 6) (hr : g (667 + c) = nI r) (hr2 : r < 18)
    (H : ∀ J : Nat → Nat → Int32, (∀ p, p ≠ 176 → J p = I p) → Q (some (.int (nI (bm_out g c a ru).toNat))) (br_hp n J L)) :
    br_r (d + 2) 241 0 [some (.ref 169), some (.int (nI ru)), some (.int (nI c)), some (.int (nI a)), z4, z5, z6] [] (br_hp n I L) Q := by
  obtain ⟨m1, m2, m3⟩ := hrg
  obtain ⟨q1, q2, q3, q4, q5, q6, q7⟩ := m3 ru hru
  have hl := bu_rn_len (F := bm_F g c a) (ops := bu_ops g) (ht := ht ru) (bu_fr g (ru + 1) - bu_fr g ru) (bu_fr g ru) [] (fun q h7 h8 => (q7 q h7 (by omega)).2.2.2) (by rw [q5]; rfl)
  rw [show bu_fr g ru + (bu_fr g (ru + 1) - bu_fr g ru) = bu_fr g (ru + 1) by omega, q6] at hl
  have inner : ∀ j i s (J : Nat → Nat → Int32) (z6 : Option Value), (∀ p, p ≠ 176 → J p = I p) → i + j = bu_fr g (ru + 1) → bu_fr g ru ≤ i → s.length = ht ru i → bu_p s (J 176) → bu_rn (bm_F g c a) (bu_ops g) j i s = bu_rn (bm_F g c a) (bu_ops g) (bu_fr g (ru + 1) - bu_fr g ru) (bu_fr g ru) [] →
      br_r (d + 2) 241 14 [some (.ref 169), some (.int (nI ru)), some (.int (nI c)), some (.int (nI a)), some (.int (nI s.length)), some (.int (nI i)), z6] [] (br_hp n J L) Q := by
    intro j
    induction j with
    | zero =>
      intro i s J z6 hJ hi _ hs hp he
      have hi' : i = bu_fr g (ru + 1) := by omega
      have he' : s = bu_rn (bm_F g c a) (bu_ops g) (bu_fr g (ru + 1) - bu_fr g ru) (bu_fr g ru) [] := he
      have jg : J 171 = g := by rw [hJ 171 (by omega), hg]
      refine rb_M_isOut_14 ?_
      rw [nI_add, nI_clamp (by omega), jg, q4]
      refine ⟨vp_in_nI (by omega) (by omega), br_t (nI_le (by omega) (by omega)) ?_⟩
      have hH := H J hJ
      unfold bm_out at hH
      rw [← he'] at hH hl
      match s, hl, hp with
      | [b], _, hp =>
        have e0 : J 176 0 = nI b.toNat := hp.1
        rw [e0]
        refine ⟨bu_nI b, ?_⟩
        cases b
        · exact hH
        · exact hH
    | succ j ih =>
      intro i s J z6 hJ hi hi2 hs hp he
      obtain ⟨p1, p4, p5, p7⟩ := q7 i hi2 (by omega)
      refine rs_outStep (by rw [hJ 171 (by omega)]; exact hg) hc ha hr hr2 (by omega) p7 hs p1 (by omega) p4 p5 q4 (by omega) q2 hp (fun J' z6' hJ' hp' => ?_) z6
      exact ih (i + 1) _ J' z6' (fun p hp2 => by rw [hJ' p hp2, hJ p hp2]) (by omega) (by omega) (bu_st_len p7 hs) hp' he
  refine rb_M_isOut_0 ?_
  rw [nI_add, nI_clamp (by omega), hg, q3]
  exact ⟨vp_in_nI (by omega) (by omega), inner (bu_fr g (ru + 1) - bu_fr g ru) (bu_fr g ru) [] I z6 (fun _ _ => rfl) (by omega) (Nat.le_refl _) (by rw [q5]; rfl) trivial rfl⟩
theorem rs_M_isEnd {g : Nat → Int32} {c t : Nat} {z3 : Option Value} (hg : I 171 = g) (hc : c < 40) (ht : t < 6) (H : Q (some (.int (nI (bm_end g c t).toNat))) (br_hp n I L)) : br_r (d + 1) 243 0 [some (.ref 169), some (.int (nI c)), some (.int (nI t)), z3] [] (br_hp n I L) Q := by
  subst hg
  refine rb_M_isEnd_0 (rs_pointOf hc ht (rb_M_isEnd_6 ⟨fun h => ?_, fun h => ⟨fun h2 => ?_, fun h2 => ?_⟩⟩))
  · unfold bm_end at H; rw [decide_eq_true h] at H; exact H
  · unfold bm_end at H; rw [decide_eq_false h, decide_eq_false h2] at H; exact H
  · unfold bm_end at H; rw [decide_eq_false h, decide_eq_true (Classical.not_not.mp h2)] at H; exact H
theorem rs_M_looksAt {g : Nat → Int32} {a b N m : Nat} {ht : Nat → Nat → Nat} {clean : Bool} {z4 z5 : Option Value} (hg : I 171 = g) (hrg : br_rg g m ht) (ha : a < 6) (hb : b < 6) (hN : g 666 = nI N) (h40 : N ≤ 40) (hroom : ∀ c, c < N → ∃ r, r < 18 ∧ g (667 + c) = nI r)
    (H : ∀ J : Nat → Nat → Int32, (∀ p, p ≠ 175 → p ≠ 176 → J p = I p) → (∀ c, c < 40 → J 175 c = nI (decide (c < N) && bm_rd g a b clean c).toNat) → Q none (br_hp n J L)) :
    br_r (d + 3) 240 0 [some (.ref 169), some (.int (nI a)), some (.int (nI b)), some (.int (nI clean.toNat)), z4, z5] [] (br_hp n I L) Q := by
  have loop : ∀ k c (J : Nat → Nat → Int32) (z5 : Option Value), c + k = 40 → (∀ p, p ≠ 175 → p ≠ 176 → J p = I p) → (∀ q, q < c → J 175 q = nI (decide (q < N) && bm_rd g a b clean q).toNat) →
      br_r (d + 3) 240 3 [some (.ref 169), some (.int (nI a)), some (.int (nI b)), some (.int (nI clean.toNat)), some (.int (nI c)), z5] [] (br_hp n J L) Q := by
    intro k
    induction k with
    | zero =>
      intro c J z5 hc hJ h1
      have : c = 40 := by omega
      subst this
      exact rb_M_looksAt_3 (br_t (nI_le (Nat.le_refl 40) (by omega)) (H J hJ h1))
    | succ k ih =>
      intro c J z5 hc hJ h1
      have jg : J 171 = g := by rw [hJ 171 (by omega) (by omega), hg]
      -- the end of a turn
      have fin : ∀ (J' : Nat → Nat → Int32) (z : Option Value), (∀ p, p ≠ 175 → p ≠ 176 → J' p = I p) → (∀ q, q ≠ c → J' 175 q = J 175 q) → J' 175 c = nI (decide (c < N) && bm_rd g a b clean c).toNat →
          br_r (d + 3) 240 3 [some (.ref 169), some (.int (nI a)), some (.int (nI b)), some (.int (nI clean.toNat)), some (.int (nI (c + 1))), z] [] (br_hp n J' L) Q := by
        intro J' z hJ' h2 h3
        refine ih (c + 1) J' z (by omega) hJ' (fun q hq => ?_)
        by_cases hqc : q = c
        · subst hqc; exact h3
        · rw [h2 q hqc]; exact h1 q (by omega)
      have fr : ∀ (J' : Nat → Nat → Int32) (x : Int32), (∀ p, p ≠ 175 → p ≠ 176 → J' p = I p) → ∀ p, p ≠ 175 → p ≠ 176 → br_u J' 175 c x p = I p := fun J' x h p h2 h3 => by rw [br_u_q h2]; exact h p h2 h3
      -- behind the rules
      have clr : ∀ (J' : Nat → Nat → Int32) (w : Bool) (z : Option Value), (∀ p, p ≠ 175 → p ≠ 176 → J' p = I p) → (∀ q, q ≠ c → J' 175 q = J 175 q) → J' 175 c = nI w.toNat → (w && !(clean && (bm_end g c a || bm_end g c b))) = (decide (c < N) && bm_rd g a b clean c) →
          br_r (d + 3) 240 112 [some (.ref 169), some (.int (nI a)), some (.int (nI b)), some (.int (nI clean.toNat)), some (.int (nI c)), z] [] (br_hp n J' L) Q := by
        intro J' w z hJ' h2 h3 h4
        have jg' : J' 171 = g := by rw [hJ' 171 (by omega) (by omega), hg]
        have put : ∀ (y : Bool) (z : Option Value), y = (decide (c < N) && bm_rd g a b clean c) → br_r (d + 3) 240 3 [some (.ref 169), some (.int (nI a)), some (.int (nI b)), some (.int (nI clean.toNat)), some (.int (nI (c + 1))), z] [] (br_hp n (br_u J' 175 c (nI y.toNat)) L) Q := by
          intro y z hy
          refine fin _ z (fr J' _ hJ') (fun q hq => by rw [br_u_n (by omega)]; exact h2 q hq) (by rw [br_u_s, hy])
        refine rb_M_looksAt_112 ?_
        rw [nI_add, nI_clamp (by omega), h3, bu_nI0, bu_nI0]
        refine ⟨fun hcl => ?_, fun hcl => ⟨vp_in_nI (by omega) (by omega), fun hw => ?_, fun hw => ?_⟩⟩
        · subst hcl
          refine fin J' z hJ' h2 ?_
          rw [h3, ← h4]; simp
        · subst hw
          refine fin J' z hJ' h2 ?_
          rw [h3, ← h4]; simp
        · rw [Bool.not_eq_false] at hcl hw
          subst hcl hw
          refine rs_M_isEnd jg' (by omega) ha (rb_M_looksAt_139 ?_)
          rw [nI_add, nI_clamp (by omega), bu_nI0]
          refine ⟨fun he => ⟨vp_in_nI (by omega) (by omega), ?_⟩, fun he => ?_⟩
          · rw [Bool.not_eq_false] at he
            refine put false _ ?_
            rw [← h4, he]; simp
          · have he' := Classical.not_not.mp he
            refine rs_M_isEnd jg' (by omega) hb (rb_M_looksAt_149 ?_)
            rw [nI_add, nI_clamp (by omega), bu_nI0]
            refine ⟨fun he2 => ⟨vp_in_nI (by omega) (by omega), ?_⟩, fun he2 => ⟨vp_in_nI (by omega) (by omega), ?_⟩⟩
            · rw [Bool.not_eq_false] at he2
              refine put false _ ?_
              rw [← h4, he2]; simp
            · have he2' := Classical.not_not.mp he2
              refine put true _ ?_
              rw [← h4, he', he2']; simp
      -- the rules
      have rul : ∀ k r (J' : Nat → Nat → Int32) (w : Bool), r + k = m → c < N → (∀ p, p ≠ 175 → p ≠ 176 → J' p = I p) → (∀ q, q ≠ c → J' 175 q = J 175 q) → J' 175 c = nI w.toNat →
          ((w && !bu_any (bm_F g c a) (bu_ops g) (bu_fr g) k r) && !(clean && (bm_end g c a || bm_end g c b))) = (decide (c < N) && bm_rd g a b clean c) →
          br_r (d + 3) 240 60 [some (.ref 169), some (.int (nI a)), some (.int (nI b)), some (.int (nI clean.toNat)), some (.int (nI c)), some (.int (nI r))] [] (br_hp n J' L) Q := by
        obtain ⟨m1, m2, m3⟩ := hrg
        intro k
        induction k with
        | zero =>
          intro r J' w hr hcN hJ' h2 h3 h4
          have jg' : J' 171 = g := by rw [hJ' 171 (by omega) (by omega), hg]
          have : r = m := by omega
          subst this
          refine rb_M_looksAt_60 (br_t (by rw [jg', m2]; exact nI_le (Nat.le_refl _) (by omega)) ?_)
          refine clr J' w _ hJ' h2 h3 ?_
          rw [← h4]
          show _ = ((w && !false) && _)
          simp
        | succ k ihr =>
          intro r J' w hr hcN hJ' h2 h3 h4
          have jg' : J' 171 = g := by rw [hJ' 171 (by omega) (by omega), hg]
          obtain ⟨rm, hrm, erm⟩ := hroom c hcN
          refine rb_M_looksAt_60 (br_f (by rw [jg', m2]; exact nI_ge (by omega) (by omega)) ?_)
          rw [nI_clamp (by omega), h3, bu_nI0]
          refine ⟨vp_in_nI (by omega) (by omega), fun hw => ?_, fun hw => ?_⟩
          · subst hw
            refine clr J' false _ hJ' h2 h3 ?_
            rw [← h4]; simp
          · rw [Bool.not_eq_false] at hw
            subst hw
            refine rs_M_isOut jg' ⟨m1, m2, m3⟩ (by omega) (by omega) ha erm hrm (fun J2 hJ2 => rb_M_looksAt_97 ?_)
            rw [nI_add, nI_clamp (by omega), bu_nI0]
            have ea : bu_any (bm_F g c a) (bu_ops g) (bu_fr g) (k + 1) r = (bm_out g c a r || bu_any (bm_F g c a) (bu_ops g) (bu_fr g) k (r + 1)) := rfl
            rw [ea] at h4
            have nx : ∀ y : Bool, ((y && !bu_any (bm_F g c a) (bu_ops g) (bu_fr g) k (r + 1)) && !(clean && (bm_end g c a || bm_end g c b))) = (decide (c < N) && bm_rd g a b clean c) →
                br_r (d + 3) 240 60 [some (.ref 169), some (.int (nI a)), some (.int (nI b)), some (.int (nI clean.toNat)), some (.int (nI c)), some (.int (nI (r + 1)))] [] (br_hp n (br_u J2 175 c (nI y.toNat)) L) Q := by
              intro y hy
              refine ihr (r + 1) _ y (by omega) hcN (fun p h5 h6 => by rw [br_u_q h5, hJ2 p h6]; exact hJ' p h5 h6) (fun q hq => by rw [br_u_n (by omega), hJ2 175 (by omega)]; exact h2 q hq) (by rw [br_u_s]) hy
            refine ⟨fun ho => ⟨vp_in_nI (by omega) (by omega), ?_⟩, fun ho => ⟨vp_in_nI (by omega) (by omega), ?_⟩⟩
            · rw [Bool.not_eq_false] at ho
              refine nx false ?_
              rw [← h4, ho]; simp
            · have ho' := Classical.not_not.mp ho
              refine nx true ?_
              rw [← h4, ho']; simp
      refine rb_M_looksAt_3 (br_f (nI_ge (b := 40) (by omega) (by omega)) ?_)
      rw [jg, hN, nI_clamp (by omega)]
      have put0 : ∀ (y : Bool), (c < N → ((y && !bm_any g (bm_F g c a)) && !(clean && (bm_end g c a || bm_end g c b))) = (decide (c < N) && bm_rd g a b clean c)) → (¬ c < N → y = false) →
          br_r (d + 3) 240 60 [some (.ref 169), some (.int (nI a)), some (.int (nI b)), some (.int (nI clean.toNat)), some (.int (nI c)), some (.int (nI 0))] [] (br_hp n (br_u J 175 c (nI y.toNat)) L) Q := by
        intro y hy hy2
        have hJ' := fr J (nI y.toNat) hJ
        have h2 : ∀ q, q ≠ c → br_u J 175 c (nI y.toNat) 175 q = J 175 q := fun q hq => br_u_n (by omega)
        have h3 : br_u J 175 c (nI y.toNat) 175 c = nI y.toNat := br_u_s
        by_cases hcN : c < N
        · refine rul m 0 _ y (by omega) hcN hJ' h2 h3 ?_
          rw [← hy hcN]
          unfold bm_any
          rw [hrg.2.1, nI_clamp (by have := hrg.1; omega)]
        · have hyf := hy2 hcN
          subst hyf
          have jg' : br_u J 175 c (nI (false).toNat) 171 = g := by rw [br_u_q (by omega), jg]
          obtain ⟨m1, m2, m3⟩ := hrg
          have fin0 := clr _ false (some (.int (nI 0))) hJ' h2 h3 (by rw [decide_eq_false hcN]; simp)
          refine rb_M_looksAt_60 ?_
          rw [jg', m2, nI_clamp (by omega), h3]
          refine ⟨fun _ => fin0, fun _ => ⟨vp_in_nI (by omega) (by omega), br_t rfl fin0⟩⟩
      refine ⟨fun h => ⟨vp_in_nI (by omega) (by omega), ?_⟩, fun h => ?_⟩
      · have hcN : ¬ c < N := by rw [nI_leI (by omega) (by omega)] at h; omega
        exact put0 false (fun z => absurd z hcN) (fun _ => rfl)
      · have hcN : c < N := by rw [nI_leI (by omega) (by omega)] at h; omega
        refine rs_pointOf (by omega) ha (rb_M_looksAt_36 ?_)
        rw [jg, nI_clamp (by omega)]
        have er : bm_rd g a b clean c = (((!decide (g (867 + (40 * a + c)) = -(nI 1)) && !decide (g (867 + (40 * b + c)) = -(nI 1))) && !bm_any g (bm_F g c a)) && !(clean && (bm_end g c a || bm_end g c b))) := rfl
        refine ⟨fun h5 => ⟨vp_in_nI (by omega) (by omega), put0 false (fun _ => ?_) (fun z => absurd hcN z)⟩, fun h5 => rs_pointOf (by omega) hb (rb_M_looksAt_47 ?_)⟩
        · rw [er, decide_eq_true h5]; simp
        · rw [jg, nI_clamp (by omega)]
          refine ⟨fun h6 => ⟨vp_in_nI (by omega) (by omega), put0 false (fun _ => ?_) (fun z => absurd hcN z)⟩, fun h6 => ⟨vp_in_nI (by omega) (by omega), put0 true (fun _ => ?_) (fun z => absurd hcN z)⟩⟩
          · rw [er, decide_eq_true h6]; simp
          · rw [er, decide_eq_false h5, decide_eq_false h6, decide_eq_true hcN]; simp
  exact rb_M_looksAt_0 (loop 40 0 I z5 (by omega) (fun _ _ _ => rfl) (fun q hq => absurd hq (Nat.not_lt_zero q)))
end
