set_option maxRecDepth 100000
set_option maxHeartbeats 4000000
def bu_fr (g : Nat → Int32) (r : Nat) : Nat := if r = 0 then 0 else (g (117 + (r - 1))).toNatClampNeg
/-- whether one of all rules holds -/
def bm_any (g : Nat → Int32) (F : Nat → Nat → Bool) : Bool := bu_any F (bu_ops g) (bu_fr g) (g 104).toNatClampNeg 0
theorem bu_any_c {F : Nat → Nat → Bool} {ops : Nat → Nat × Nat} {fr fr' : Nat → Nat} : ∀ k r, (∀ q, r ≤ q → q ≤ r + k → fr q = fr' q) → bu_any F ops fr k r = bu_any F ops fr' k r
  | 0, _, _ => rfl
  | k + 1, r, h => by
    show ((bu_rn F ops (fr (r + 1) - fr r) (fr r) [] == [true]) || bu_any F ops fr k (r + 1)) = ((bu_rn F ops (fr' (r + 1) - fr' r) (fr' r) [] == [true]) || bu_any F ops fr' k (r + 1))
    rw [h r (by omega) (by omega), h (r + 1) (by omega) (by omega), bu_any_c k (r + 1) (fun q h1 h2 => h q (by omega) (by omega))]
theorem bu_rn_len {F : Nat → Nat → Bool} {ops : Nat → Nat × Nat} {ht : Nat → Nat} : ∀ j i s, (∀ q, i ≤ q → q < i + j → br_hs (ops q).1 (ht q) (ht (q + 1))) → s.length = ht i → (bu_rn F ops j i s).length = ht (i + j)
  | 0, _, _, _, hs => hs
  | j + 1, i, s, h, hs => by
    have h1 := bu_st_len (F := F) (v := (ops i).2) (h i (by omega) (by omega)) hs
    have h2 := bu_rn_len (F := F) j (i + 1) _ (fun q h3 h4 => h q (by omega) (by omega)) h1
    rw [show i + (j + 1) = i + 1 + j by omega]
    exact h2
/-- the rules as they stand, in one piece -/
theorem bu_norm {f : Nat → Nat → Int32} {g : Nat → Int32} (h : br_ru 9 0 f g) : ∃ (m : Nat) (ht : Nat → Nat → Nat), m ≤ 12 ∧ g 104 = nI m ∧ f 29 1 = nI (bu_fr g m + m) ∧ bu_fr g m ≤ 250 ∧ bu_fr g m + m ≤ 400 ∧
    ∀ r, r < m → bu_fr g r ≤ bu_fr g (r + 1) ∧ bu_fr g (r + 1) ≤ bu_fr g m ∧ g (105 + r) = nI (bu_fr g r) ∧ g (117 + r) = nI (bu_fr g (r + 1)) ∧ f 30 (bu_fr g (r + 1) + r) = nI (18 * 256) ∧ ht r (bu_fr g r) = 0 ∧ ht r (bu_fr g (r + 1)) = 1 ∧
      ∀ i, bu_fr g r ≤ i → i < bu_fr g (r + 1) → ht r i ≤ 30 ∧ (bu_ops g i).2 ≤ 200 ∧ (bu_ops g i).1 < 28 ∧ g (129 + 2 * i) = nI (bu_ops g i).1 ∧ g (130 + 2 * i) = nI (bu_ops g i).2 ∧ f 30 (i + r) = nI (256 * (bu_ops g i).1 + (bu_ops g i).2) ∧ br_hs (bu_ops g i).1 (ht r i) (ht r (i + 1)) := by
  obtain ⟨m, fr, ht, hm, h1, h2, h3, h4, h5, h6⟩ := h
  simp only [Nat.zero_add] at h1 h6
  have e : ∀ r, r ≤ m → bu_fr g r = fr r := by
    intro r hr
    unfold bu_fr
    by_cases h0 : r = 0
    · rw [if_pos h0, h0, h2]
    · rw [if_neg h0]
      obtain ⟨_, e2, _, e4, _⟩ := h6 (r - 1) (by omega)
      rw [show r - 1 + 1 = r by omega] at e4
      rw [e4, nI_clamp]
      rw [show r - 1 + 1 = r by omega] at e2
      omega
  refine ⟨m, ht, hm, h1, by rw [e m (Nat.le_refl m)]; exact h3, by rw [e m (Nat.le_refl m)]; exact h4, by rw [e m (Nat.le_refl m)]; exact h5, fun r hr => ?_⟩
  obtain ⟨q1, q2, q3, q4, q5, q6, q7, q8⟩ := h6 r hr
  rw [e r (by omega), e (r + 1) (by omega), e m (Nat.le_refl m)]
  refine ⟨q1, q2, q3, q4, q5, q6, q7, fun i h7 h8 => ?_⟩
  obtain ⟨p1, k, v, p2, p3, p4, p5, p6⟩ := q8 i h7 h8
  have hk : k < 28 := by unfold br_hs at p6; omega
  have ek : (bu_ops g i).1 = k := by show (g (129 + 2 * i)).toNatClampNeg = k; rw [p3, nI_clamp (by omega)]
  have ev : (bu_ops g i).2 = v := by show (g (130 + 2 * i)).toNatClampNeg = v; rw [p4, nI_clamp (by omega)]
  rw [ek, ev]
  exact ⟨p1, p2, hk, p3, p4, p5, p6⟩
section
variable {d n : Nat} {Q : br_Q} {I : Nat → Nat → Int32} {L : Nat → Nat → Int64}
theorem rs_anyTrue {wd rm gr wk pt : Int32} {z6 z7 z8 z9 : Option Value} (hru : br_ru 9 0 I (I 171)) (H : Q (some (.int (nI (bm_any (I 171) (bu_F wd rm gr wk pt)).toNat))) (br_hp n I L)) :
    br_r (d + 1) 100 0 [some (.ref 29), some (.int (nI (decide (nI 1 < wd)).toNat)), some (.int rm), some (.int gr), some (.int wk), some (.int pt), z6, z7, z8, z9] [] (br_hp n I L) Q := by
  obtain ⟨m, ht, hm, h1, h3, h4, h5, h6⟩ := bu_norm hru
  unfold bm_any at H
  rw [h1, nI_clamp (by omega)] at H
  have main : ∀ k r, r + k = m → Q (some (.int (nI (bu_any (bu_F wd rm gr wk pt) (bu_ops (I 171)) (bu_fr (I 171)) k r).toNat))) (br_hp n I L) → ∀ z8 z9 : Option Value,
      br_r (d + 1) 100 6 [some (.ref 29), some (.int (nI (decide (nI 1 < wd)).toNat)), some (.int rm), some (.int gr), some (.int wk), some (.int pt), some (.int (nI 0)), some (.int (nI (bu_fr (I 171) r + r))), z8, z9] [] (br_hp n I L) Q := by
    intro k
    induction k with
    | zero =>
      intro r hr h z8 z9
      have : r = m := by omega
      subst this
      exact rb_Rules_isAnyTrue_6 ⟨rfl, br_t (by rw [h3]; exact nI_le (Nat.le_refl _) (by omega)) h⟩
    | succ k ih =>
      intro r hr h
      obtain ⟨q1, q2, q3, q4, q5, q6, q7, q8⟩ := h6 r (by omega)
      have inner : ∀ j i s, i + j = bu_fr (I 171) (r + 1) → bu_fr (I 171) r ≤ i → s.length = ht r i →
          (∀ z8 z9 : Option Value, br_r (d + 1) 100 6 [some (.ref 29), some (.int (nI (decide (nI 1 < wd)).toNat)), some (.int rm), some (.int gr), some (.int wk), some (.int pt), some (.int (nI (bu_v (bu_rn (bu_F wd rm gr wk pt) (bu_ops (I 171)) j i s)))), some (.int (nI (bu_fr (I 171) (r + 1) + r))), z8, z9] [] (br_hp n I L) Q) →
          ∀ z8 z9 : Option Value, br_r (d + 1) 100 6 [some (.ref 29), some (.int (nI (decide (nI 1 < wd)).toNat)), some (.int rm), some (.int gr), some (.int wk), some (.int pt), some (.int (nI (bu_v s))), some (.int (nI (i + r))), z8, z9] [] (br_hp n I L) Q := by
        intro j
        induction j with
        | zero =>
          intro i s hi _ _ hk
          have : i = bu_fr (I 171) (r + 1) := by omega
          subst this
          exact hk
        | succ j ihj =>
          intro i s hi hi2 hs hk
          obtain ⟨p1, p2, p3, p4, p5, p6, p7⟩ := q8 i hi2 (by omega)
          refine rs_anyStep p7 hs p1 p2 (S := bu_fr (I 171) m + m) (by omega) h5 h3 p6 ?_
          have h7 := ihj (i + 1) _ (by omega) (by omega) (bu_st_len (F := bu_F wd rm gr wk pt) (v := (bu_ops (I 171) i).2) p7 hs) hk
          rw [show i + r + 1 = i + 1 + r by omega]
          exact h7
      have hl := bu_rn_len (F := bu_F wd rm gr wk pt) (ops := bu_ops (I 171)) (ht := ht r) (bu_fr (I 171) (r + 1) - bu_fr (I 171) r) (bu_fr (I 171) r) [] (fun q h7 h8 => (q8 q h7 (by omega)).2.2.2.2.2.2) (by rw [q6]; rfl)
      rw [show bu_fr (I 171) r + (bu_fr (I 171) (r + 1) - bu_fr (I 171) r) = bu_fr (I 171) (r + 1) by omega, q7] at hl
      have ea : bu_any (bu_F wd rm gr wk pt) (bu_ops (I 171)) (bu_fr (I 171)) (k + 1) r = ((bu_rn (bu_F wd rm gr wk pt) (bu_ops (I 171)) (bu_fr (I 171) (r + 1) - bu_fr (I 171) r) (bu_fr (I 171) r) [] == [true]) || bu_any (bu_F wd rm gr wk pt) (bu_ops (I 171)) (bu_fr (I 171)) k (r + 1)) := rfl
      rw [ea] at h
      refine inner (bu_fr (I 171) (r + 1) - bu_fr (I 171) r) (bu_fr (I 171) r) [] (by omega) (Nat.le_refl _) (by rw [q6]; rfl) ?_
      generalize bu_rn (bu_F wd rm gr wk pt) (bu_ops (I 171)) (bu_fr (I 171) (r + 1) - bu_fr (I 171) r) (bu_fr (I 171) r) [] = t at h hl ⊢
      match t, hl with
      | [b], _ =>
        intro z8 z9
        have e1 : nI (18 * 256) >>> (nI 8 &&& 31) = nI 18 := by decide +kernel
        refine rb_Rules_isAnyTrue_6 ⟨rfl, br_f (by rw [h3]; exact nI_ge (by omega) (by omega)) ⟨rfl, rfl, br_f (nI_ge (b := 400) (by omega) (by omega)) ⟨rfl, rfl, vp_in_nI (n := bu_fr (I 171) (r + 1) + r) (N := 400) (by omega) (by omega), rfl, rfl, vp_in_nI (n := bu_fr (I 171) (r + 1) + r) (N := 400) (by omega) (by omega), ?_⟩⟩⟩
        have e3 : br_R0 29 0 = 30 := rfl
        simp only [e3, nI_clamp (show bu_fr (I 171) (r + 1) + r < 2 ^ 31 by omega), q5, e1]
        repeat (first | refine br_t rfl ?_ | refine br_t trivial ?_ | refine br_f (by decide +kernel) ?_)
        refine rb_Rules_isAnyTrue_132 ?_
        rw [bu_top, bu_nI1]
        cases b with
        | true => exact br_f (fun z => z rfl) h
        | false =>
          refine br_t (fun z => by cases z) ?_
          rw [nI_add]
          exact ih (r + 1) (by omega) h _ _
  refine rb_Rules_isAnyTrue_0 ?_
  have := main m 0 (by omega) H z8 z9
  have e0 : bu_fr (I 171) 0 = 0 := rfl
  rw [e0] at this
  exact this
end
