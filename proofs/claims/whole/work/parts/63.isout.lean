set_option maxRecDepth 100000
set_option maxHeartbeats 4000000
def bu_p : List Bool → (Nat → Int32) → Prop
  | [], _ => True
  | x :: s, f => f s.length = nI x.toNat ∧ bu_p s f
theorem bu_p_up {x : Int32} {j : Nat} : ∀ {s : List Bool} {f : Nat → Int32}, bu_p s f → s.length ≤ j → bu_p s (br_v f j x)
  | [], _, _, _ => trivial
  | y :: s, f, h, hj => by
    simp only [List.length_cons] at hj
    exact ⟨by rw [br_v_j (by omega)]; exact h.1, bu_p_up h.2 (by omega)⟩
/-- the facts of a child, its points in a test -/
def bm_F (g : Nat → Int32) (c a : Nat) : Nat → Nat → Bool := bu_F (g (787 + c)) (g (667 + c)) (g (707 + c)) (g (630 + (g (667 + c)).toNatClampNeg)) (g (867 + (40 * a + c)))
def br_fk (k : Nat) : Prop := k = 23 ∨ k = 24 ∨ k = 25 ∨ k = 11 ∨ k = 26 ∨ k = 27
section
variable {d n : Nat} {Q : br_Q} {I : Nat → Nat → Int32} {L : Nat → Nat → Int64}
theorem rs_M_fact {c a r k v : Nat} (hc : c < 40) (ha : a < 6) (hr : I 171 (667 + c) = nI r) (hr2 : r < 18) (hk : br_fk k) (H : Q (some (.int (nI (bm_F (I 171) c a k v).toNat))) (br_hp n I L)) :
    br_r (d + 1) 242 0 [some (.ref 169), some (.int (nI k)), some (.int (nI v)), some (.int (nI c)), some (.int (nI a))] [] (br_hp n I L) Q := by
  refine rb_M_fact_0 ?_
  simp (disch := omega) only [nI_add, nI_clamp, hr]
  unfold bm_F at H
  rw [hr, nI_clamp (by omega)] at H
  rcases hk with rfl | rfl | rfl | rfl | rfl | rfl
  · have e : bu_F (I 171 (787 + c)) (nI r) (I 171 (707 + c)) (I 171 (630 + r)) (I 171 (867 + (40 * a + c))) 23 v = decide (nI 1 < I 171 (787 + c)) := rfl
    rw [e] at H
    repeat (first | refine br_t rfl ?_ | refine br_f (by decide +kernel) ?_)
    refine ⟨vp_in_nI (by omega) (by omega), fun h => ?_, fun h => ?_⟩
    · rw [bu_dF (by rw [br_ltT]; rw [br_leT] at h; omega)] at H; exact H
    · rw [bu_dT (by rw [br_ltT]; rw [br_leT] at h; omega)] at H; exact H
  · have e : bu_F (I 171 (787 + c)) (nI r) (I 171 (707 + c)) (I 171 (630 + r)) (I 171 (867 + (40 * a + c))) 24 v = decide (nI r = nI v) := rfl
    rw [e] at H
    repeat (first | refine br_t rfl ?_ | refine br_f (by decide +kernel) ?_)
    refine ⟨vp_in_nI (by omega) (by omega), fun h => ?_, fun h => ?_⟩
    · rw [bu_dF h] at H; exact H
    · rw [bu_dT (Classical.not_not.mp h)] at H; exact H
  · have e : bu_F (I 171 (787 + c)) (nI r) (I 171 (707 + c)) (I 171 (630 + r)) (I 171 (867 + (40 * a + c))) 25 v = decide (I 171 (707 + c) = nI v) := rfl
    rw [e] at H
    repeat (first | refine br_t rfl ?_ | refine br_f (by decide +kernel) ?_)
    refine ⟨vp_in_nI (by omega) (by omega), fun h => ?_, fun h => ?_⟩
    · rw [bu_dF h] at H; exact H
    · rw [bu_dT (Classical.not_not.mp h)] at H; exact H
  · have e : bu_F (I 171 (787 + c)) (nI r) (I 171 (707 + c)) (I 171 (630 + r)) (I 171 (867 + (40 * a + c))) 11 v = decide (nI v ≤ I 171 (630 + r)) := rfl
    rw [e] at H
    repeat (first | refine br_t rfl ?_ | refine br_f (by decide +kernel) ?_)
    refine ⟨vp_in_nI (by omega) (by omega), vp_in_nI (by omega) (by omega), fun h => ?_, fun h => ?_⟩
    · rw [bu_dF (by rw [br_leT]; rw [br_ltT] at h; omega)] at H; exact H
    · rw [bu_dT (by rw [br_leT]; rw [br_ltT] at h; omega)] at H; exact H
  · have e : bu_F (I 171 (787 + c)) (nI r) (I 171 (707 + c)) (I 171 (630 + r)) (I 171 (867 + (40 * a + c))) 26 v = decide (I 171 (867 + (40 * a + c)) < nI v) := rfl
    rw [e] at H
    repeat (first | refine br_t rfl ?_ | refine br_f (by decide +kernel) ?_)
    refine rs_pointOf hc ha (rb_M_fact_148 ⟨fun h => ?_, fun h => ?_⟩)
    · rw [bu_dF (by rw [br_ltT]; rw [br_leT] at h; omega)] at H; exact H
    · rw [bu_dT (by rw [br_ltT]; rw [br_leT] at h; omega)] at H; exact H
  · have e : bu_F (I 171 (787 + c)) (nI r) (I 171 (707 + c)) (I 171 (630 + r)) (I 171 (867 + (40 * a + c))) 27 v = decide (nI v < I 171 (867 + (40 * a + c))) := rfl
    rw [e] at H
    repeat (first | refine br_t rfl ?_ | refine br_f (by decide +kernel) ?_)
    refine rs_pointOf hc ha (rb_M_fact_165 ⟨fun h => ?_, fun h => ?_⟩)
    · rw [bu_dF (by rw [br_ltT]; rw [br_leT] at h; omega)] at H; exact H
    · rw [bu_dT (by rw [br_ltT]; rw [br_leT] at h; omega)] at H; exact H
/-- one step of the model; J: the world with the pile -/
theorem rs_outStep {g : Nat → Int32} {ru c a r k v i x y : Nat} {s : List Bool} (hg : I 171 = g) (hc : c < 40) (ha : a < 6) (hr : g (667 + c) = nI r) (hr2 : r < 18) (hru : ru < 12) (hk : br_hs k x y) (hs : s.length = x) (hx : x ≤ 30) (hi : i < 250)
    (e1 : g (129 + 2 * i) = nI k) (e2 : g (130 + 2 * i) = nI v) {to : Nat} (e3 : g (117 + ru) = nI to) (hto : i < to) (hto2 : to ≤ 250) (hp : bu_p s (I 176))
    (H : ∀ (J : Nat → Nat → Int32) (z6 : Option Value), (∀ p, p ≠ 176 → J p = I p) → bu_p (bu_st (bm_F g c a) k v s) (J 176) → br_r (d + 2) 241 14 [some (.ref 169), some (.int (nI ru)), some (.int (nI c)), some (.int (nI a)), some (.int (nI (bu_st (bm_F g c a) k v s).length)), some (.int (nI (i + 1))), z6] [] (br_hp n J L) Q) (z6 : Option Value) :
    br_r (d + 2) 241 14 [some (.ref 169), some (.int (nI ru)), some (.int (nI c)), some (.int (nI a)), some (.int (nI s.length)), some (.int (nI i)), z6] [] (br_hp n I L) Q := by
  subst hg
  have hk30 : k < 30 := by unfold br_hs at hk; omega
  refine rb_M_isOut_14 ?_
  simp (disch := omega) only [nI_add, pk_mul, nI_clamp, e3, e1, Nat.add_right_comm 129 (2 * i) 1]
  refine ⟨vp_in_nI (by omega) (by omega), br_f (nI_ge hto (by omega)) ⟨vp_in_nI (by omega) (by omega), ?_⟩⟩
  have fr : ∀ (j : Nat) (w : Int32) (p : Nat), p ≠ 176 → br_u I 176 j w p = I p := fun j w p hp => br_u_q hp
  rcases hk with ⟨rfl, h1, h2⟩ | ⟨h0, h1, h2⟩ | ⟨h0, h1⟩
  · match s, hs, hp with
    | [], hs, _ => simp at hs; omega
    | b :: t, hs, hp =>
      simp only [List.length_cons] at hs ⊢
      have e : bu_st (bm_F (I 171) c a) 22 v (b :: t) = (!b) :: t := rfl
      rw [e] at H
      rw [pk_sub (by omega), Nat.add_sub_cancel, nI_clamp (by omega), hp.1]
      refine br_f (fun z => z trivial) ⟨vp_in_nI (by omega) (by omega), fun h => ⟨vp_in_nI (by omega) (by omega), ?_⟩, fun h => ⟨vp_in_nI (by omega) (by omega), ?_⟩⟩
      · rw [bu_nI0, Bool.not_eq_false] at h
        subst h
        exact H _ _ (fr _ _) ⟨by rw [br_u_s]; rfl, by rw [br_u_v]; exact bu_p_up hp.2 (Nat.le_refl _)⟩
      · rw [bu_nI0] at h
        have h' := Classical.not_not.mp h
        subst h'
        exact H _ _ (fr _ _) ⟨by rw [br_u_s]; rfl, by rw [br_u_v]; exact bu_p_up hp.2 (Nat.le_refl _)⟩
  · match s, hs, hp with
    | [], hs, _ => simp at hs; omega
    | [_], hs, _ => simp at hs; omega
    | b :: b' :: t, hs, hp =>
      simp only [List.length_cons] at hs ⊢
      obtain ⟨p1, p2, p3⟩ := hp
      simp only [List.length_cons] at p1
      have m1 : nI (t.length + 1 + 1) + -nI 1 = nI (t.length + 1) := by rw [← nI_add (t.length + 1) 1, Int32.add_assoc, Int32.add_right_neg]; exact Int32.add_zero _
      have m2 : nI (t.length + 1) - nI 1 = nI t.length := by rw [pk_sub (by omega), Nat.add_sub_cancel]
      have fin : ∀ (w : Bool) (z : Option Value), (bu_st (bm_F (I 171) c a) k v (b :: b' :: t)) = w :: t → br_r (d + 2) 241 14 [some (.ref 169), some (.int (nI ru)), some (.int (nI c)), some (.int (nI a)), some (.int (nI (t.length + 1))), some (.int (nI (i + 1))), z] [] (br_hp n (br_u I 176 t.length (nI w.toNat)) L) Q := by
        intro w z ew
        have := H (br_u I 176 t.length (nI w.toNat)) z (fr _ _)
        rw [ew] at this
        exact this ⟨by rw [br_u_s], by rw [br_u_v]; exact bu_p_up p3 (Nat.le_refl _)⟩
      rcases h0 with rfl | rfl
      · refine br_t (by decide +kernel) (br_f (by decide +kernel) (br_f (fun z => z rfl) (rb_M_isOut_93 (br_t (by decide +kernel) ?_))))
        simp only [m1, m2, nI_clamp (show t.length + 1 < 2 ^ 31 by omega), nI_clamp (show t.length < 2 ^ 31 by omega), p1, p2, nI_add, bu_nI0]
        refine ⟨vp_in_nI (by omega) (by omega), fun h => ⟨vp_in_nI (by omega) (by omega), ?_⟩, fun h => ⟨vp_in_nI (by omega) (by omega), fun h2 => ⟨vp_in_nI (by omega) (by omega), ?_⟩, fun h2 => ⟨vp_in_nI (by omega) (by omega), ?_⟩⟩⟩
        · refine fin true _ ?_
          rw [Bool.not_eq_false] at h; subst h
          show (b || true) :: t = _
          rw [Bool.or_true]
        · refine fin false _ ?_
          have h' := Classical.not_not.mp h
          subst h' h2; rfl
        · refine fin true _ ?_
          rw [Bool.not_eq_false] at h2; subst h2; rfl
      · refine br_t (by decide +kernel) (br_t rfl (rb_M_isOut_93 (br_f (fun z => z rfl) ?_)))
        simp only [m1, m2, nI_clamp (show t.length + 1 < 2 ^ 31 by omega), nI_clamp (show t.length < 2 ^ 31 by omega), p1, p2, nI_add, bu_nI0]
        refine ⟨vp_in_nI (by omega) (by omega), fun h => ⟨vp_in_nI (by omega) (by omega), ?_⟩, fun h => ⟨vp_in_nI (by omega) (by omega), fun h2 => ⟨vp_in_nI (by omega) (by omega), ?_⟩, fun h2 => ⟨vp_in_nI (by omega) (by omega), ?_⟩⟩⟩
        · refine fin false _ ?_
          subst h
          show (b && false) :: t = _
          rw [Bool.and_false]
        · refine fin false _ ?_
          subst h2; rfl
        · refine fin true _ ?_
          rw [Bool.not_eq_false] at h h2; subst h h2; rfl
  · have hkf : br_fk k := h0
    have e : bu_st (bm_F (I 171) c a) k v s = bm_F (I 171) c a k v :: s := by
      unfold bu_st
      rw [if_neg (by omega), if_neg (by omega), if_neg (by omega)]
    rw [e] at H
    refine br_t (by rw [nI_eq (by omega) (by omega)]; omega) (br_f (by rw [nI_eq (by omega) (by omega)]; omega) (br_t (by rw [nI_eq (by omega) (by omega)]; omega) ⟨vp_in_nI (by omega) (by omega), ?_⟩))
    rw [show 129 + 1 + 2 * i = 130 + 2 * i by omega, e2]
    refine rs_M_fact hc ha hr hr2 hkf (rb_M_isOut_201 ⟨vp_in_nI (by omega) (by omega), ?_⟩)
    rw [nI_clamp (by omega), nI_add, nI_add, br_01 (bu_nI _)]
    exact H _ _ (fr _ _) ⟨by rw [br_u_s], by rw [br_u_v]; exact bu_p_up hp (Nat.le_refl _)⟩
end
