set_option maxRecDepth 100000
set_option maxHeartbeats 4000000
/-! a text: what laws and rules have in common; and a law -/
section
variable {xs : Nat → Int32} {I : Nat → Nat → Int32} {L : Nat → Nat → Int64}
theorem br_Inv_t {I2 : Nat → Nat → Int32} (h : br_Inv xs I L) (hW : br_W 9 0 I2) (h1 : ∀ p j, (p < 8 ∨ p = 53 ∨ p = 172 ∨ (83 ≤ p ∧ p ≤ 168) ∨ (p = 171 ∧ 1389 ≤ j) ∨ p = 80 ∨ p = 81 ∨ p = 179 ∨ p = 180) → I2 p j = I p j) (h2 : I2 55 1 = nI 0) (h3 : I2 169 6 = nI 0) (h4 : I2 54 3 = I2 169 16) (h5 : I2 54 4 = I2 169 17) (h6 : br_rf I2) (h7 : I2 169 25 = I 169 25) (h8 : I2 169 26 = I 169 26) : br_Inv xs I2 L :=
  ⟨hW, ⟨br_im_d h.2.1.1 (fun p j hp => h1 p j (by omega)), br_rw_d h.2.1.2.1 (fun p j hp => h1 p j (by omega)) (fun _ _ _ => rfl), ⟨0, by omega, h2, h3, fun k hk => absurd hk (by omega)⟩, ⟨h4, h5⟩, fun p j hp => by rw [h1 p j (by omega)]; exact h.2.1.2.2.2.2 p j hp⟩, h6, h.2.2.2.1, br_wy_c h.2.2.2.2 h7 h8 (fun _ => rfl)⟩
end
section
variable {d n : Nat} {Q : br_Q} {I J : Nat → Nat → Int32} {L : Nat → Nat → Int64} {b : Nat → Nat} {N : Nat}
/-- the model begins a text -/
theorem rs_M_head {x1 : Int32} {z3 z4 z5 : Option Value} (ho : br_odx I) (h : tk_B b N I)
    (H : ∀ (J : Nat → Nat → Int32) (z2 z3 z4 z5 : Option Value), (∀ p j, ¬ (p = 169 ∧ 6 ≤ j ∧ j ≤ 15) → p ≠ 174 → J p j = I p j) → tk_Mr b N (tk_l b N N 0) J → J 169 6 = nI 0 → J 169 12 = nI 0 → J 169 14 = nI 0 → J 169 15 = nI 0 → (∀ k, k < 629 → J 174 k = if k = 18 then nI 200 else nI 0) → br_r (d + 8) 203 111 [some (.ref 169), some (.int x1), z2, z3, z4, z5] [] (br_hp n J L) Q) :
    br_r (d + 8) 203 33 [some (.ref 169), some (.int x1), some (.int (nI N)), z3, z4, z5] [.int (nI 1)] (br_hp n I L) Q := by
  generalize hJ0 : br_u (br_u (br_u (br_u (br_u (br_u I 169 9 (nI N)) 169 6 (nI 0)) 169 8 (nI 0)) 169 12 (nI 0)) 169 14 (nI 0)) 169 15 (nI 0) = J0
  have f0 : ∀ p j, ¬ (p = 169 ∧ 6 ≤ j ∧ j ≤ 15) → J0 p j = I p j := fun p j hp => by rw [← hJ0]; simp (disch := omega) only [br_u_n]
  have e9 : J0 169 9 = nI N := by rw [← hJ0]; simp (disch := omega) only [br_u_n, br_u_s]
  have e6 : J0 169 6 = nI 0 := by rw [← hJ0]; simp (disch := omega) only [br_u_n, br_u_s]
  have e8 : J0 169 8 = nI 0 := by rw [← hJ0]; simp (disch := omega) only [br_u_n, br_u_s]
  have e12 : J0 169 12 = nI 0 := by rw [← hJ0]; simp (disch := omega) only [br_u_n, br_u_s]
  have e14 : J0 169 14 = nI 0 := by rw [← hJ0]; simp (disch := omega) only [br_u_n, br_u_s]
  have e15 : J0 169 15 = nI 0 := by rw [← hJ0]; simp (disch := omega) only [br_u_n, br_u_s]
  have loop : ∀ m k (J : Nat → Nat → Int32) (z2 : Option Value), k + m = 629 → (∀ p j, p ≠ 174 → J p j = J0 p j) → (∀ i, i < k → J 174 i = if i = 18 then nI 200 else nI 0) →
      br_r (d + 8) 203 75 [some (.ref 169), some (.int x1), z2, some (.int (nI k)), z4, z5] [] (br_hp n J L) Q := by
    intro m
    induction m with
    | zero =>
      intro k J z2 hk hJ hr
      have : k = 629 := by omega
      subst this
      refine rb_M_text_75 (br_t (nI_le (Nat.le_refl 629) (by omega)) (rs_M_next0 (ts := tk_l b N N 0) (br_odx_c ho (fun p j hp => by rw [hJ p j (by omega), f0 p j (by omega)])) (tk_B_c h (fun j => by rw [hJ 173 j (by omega), f0 173 j (by omega)])) (by rw [hJ 169 9 (by omega)]; exact e9) (Nat.zero_le _) (by rw [hJ 169 8 (by omega)]; exact e8) rfl (fun J2 f2 M2 => H J2 _ _ _ _ (fun p j q1 q2 => ?_) M2 ?_ ?_ ?_ ?_ (fun i hi => ?_))))
      · rw [f2 p j (by omega), hJ p j q2, f0 p j q1]
      · rw [f2 169 6 (by omega), hJ 169 6 (by omega)]; exact e6
      · rw [f2 169 12 (by omega), hJ 169 12 (by omega)]; exact e12
      · rw [f2 169 14 (by omega), hJ 169 14 (by omega)]; exact e14
      · rw [f2 169 15 (by omega), hJ 169 15 (by omega)]; exact e15
      · rw [f2 174 i (by omega)]; exact hr i hi
    | succ m ih =>
      intro k J z2 hk hJ hr
      have step : ∀ x : Int32, x = (if k = 18 then nI 200 else nI 0) → br_r (d + 8) 203 75 [some (.ref 169), some (.int x1), br_kl z2, some (.int (nI (k + 1))), z4, z5] [] (br_hp n (br_u J 174 k x) L) Q := fun x hx =>
        ih (k + 1) _ _ (by omega) (fun p j hp => by rw [br_u_n (by omega)]; exact hJ p j hp) (fun i hi => by
          by_cases e : i = k
          · rw [e, br_u_s]; exact hx
          · rw [br_u_n (by omega)]; exact hr i (by omega))
      refine rb_M_text_75 (br_f (nI_ge (b := 629) (by omega) (by omega)) ?_)
      rw [nI_eq (a := k) (b := 18) (by omega) (by omega), nI_clamp (by omega), nI_add]
      refine ⟨fun q => ⟨vp_in_nI (by omega) (by omega), step _ (by rw [if_neg q])⟩, fun q => ⟨vp_in_nI (by omega) (by omega), step _ (by rw [if_pos (Classical.not_not.mp q)])⟩⟩
  refine rb_M_text_33 (br_t br_10 ?_)
  rw [hJ0]
  exact loop 629 0 J0 _ (by omega) (fun _ _ _ => rfl) (fun i hi => absurd hi (by omega))
/-- the model ends a text that fell -/
theorem rs_M_tailF {x1 : Int32} {f : pt_F} {z2 z3 z4 z5 : Option Value} (h : mf f J)
    (H : ∀ J2 : Nat → Nat → Int32, (∀ p j, ¬ (p = 169 ∧ (j = 16 ∨ j = 17)) → ¬ (p = 170 ∧ j = 1) → J2 p j = J p j) → J2 169 16 = nI f.1 → J2 169 17 = nI f.2 → J2 170 1 = J 170 1 + nI 1 → Q (some (.int (-(nI 10) - nI f.1))) (br_hp n J2 L)) :
    br_r (d + 1) 203 145 [some (.ref 169), some (.int x1), z2, z3, z4, z5] [] (br_hp n J L) Q := by
  obtain ⟨h1, h2, h3⟩ := h
  have ne : ¬ nI f.1 = nI 0 := by rw [← h2]; exact h1
  refine rb_M_text_145 ?_
  simp (disch := omega) only [br_u_n, h2, h3]
  refine br_t ne (br_f ne (H _ (fun p j q1 q2 => ?_) ?_ ?_ ?_))
  · simp (disch := omega) only [br_u_n]
  · simp (disch := omega) only [br_u_n, br_u_s]
  · simp (disch := omega) only [br_u_n, br_u_s]
  · simp (disch := omega) only [br_u_n, br_u_s]
/-- and one that stands -/
theorem rs_M_tailT {w lo hi : Nat} {z2 z3 z4 z5 : Option Value} (hw : w = 0 ∧ lo = 0 ∧ hi = 20 ∨ w = 1 ∧ lo = 104 ∧ hi = 629) (h : J 169 12 = nI 0)
    (H : ∀ J2 : Nat → Nat → Int32, (∀ p j, ¬ (p = 169 ∧ (j = 16 ∨ j = 17)) → ¬ (p = 171 ∧ lo ≤ j ∧ j < hi) → J2 p j = J p j) → J2 169 16 = nI 0 → J2 169 17 = -(nI 1) → (∀ k, lo ≤ k → k < hi → J2 171 k = J 174 k) → Q (some (.int (J 174 (if w = 0 then 19 else 104)))) (br_hp n J2 L)) :
    br_r (d + 1) 203 145 [some (.ref 169), some (.int (nI w)), z2, z3, z4, z5] [] (br_hp n J L) Q := by
  generalize hJ0 : br_u (br_u J 169 16 (nI 0)) 169 17 (-(nI 1)) = J0
  have f0 : ∀ p j, ¬ (p = 169 ∧ (j = 16 ∨ j = 17)) → J0 p j = J p j := fun p j hp => by rw [← hJ0, br_u_n (by omega), br_u_n (by omega)]
  have loop : ∀ m k (J1 : Nat → Nat → Int32) (z2 z3 : Option Value), k + m = hi → lo ≤ k → (∀ p j, ¬ (p = 171 ∧ lo ≤ j ∧ j < hi) → J1 p j = J0 p j) → (∀ i, lo ≤ i → i < k → J1 171 i = J 174 i) →
      br_r (d + 1) 203 225 [some (.ref 169), some (.int (nI w)), z2, z3, some (.int (nI hi)), some (.int (nI k))] [] (br_hp n J1 L) Q := by
    intro m
    induction m with
    | zero =>
      intro k J1 z2 z3 hk hlo hJ hr
      have hkh : k = hi := by omega
      have h9 := H J1 (fun p j q1 q2 => by rw [hJ p j q2, f0 p j q1]) (by rw [hJ 169 16 (by omega), ← hJ0, br_u_n (by omega), br_u_s]) (by rw [hJ 169 17 (by omega), ← hJ0, br_u_s]) (fun i q1 q2 => hr i q1 (by omega))
      refine rb_M_text_225 (br_t (by rw [hkh]; exact nI_le (Nat.le_refl _) (by omega)) ?_)
      rcases hw with ⟨rfl, rfl, rfl⟩ | ⟨rfl, rfl, rfl⟩
      · refine br_f (fun z => z rfl) ?_
        rw [if_pos rfl] at h9
        rw [hr 19 (by omega) (by omega)]; exact h9
      · refine br_t br_10 ?_
        rw [if_neg (by omega)] at h9
        rw [hr 104 (by omega) (by omega)]; exact h9
    | succ m ih =>
      intro k J1 z2 z3 hk hlo hJ hr
      refine rb_M_text_225 (br_f (nI_ge (by omega) (by omega)) ?_)
      rw [nI_clamp (by omega), nI_add, hJ 174 k (by omega), f0 174 k (by omega)]
      refine ⟨vp_in_nI (by omega) (by omega), vp_in_nI (by omega) (by omega), ih (k + 1) _ _ _ (by omega) (by omega) (fun p j q => by rw [br_u_n (by omega)]; exact hJ p j q) (fun i q1 q2 => ?_)⟩
      by_cases e : i = k
      · subst e; rw [br_u_s]
      · rw [br_u_n (by omega)]; exact hr i q1 (by omega)
  refine rb_M_text_145 ?_
  rw [h, br_u_n (by omega), br_u_n (by omega), br_u_n (by omega), h, hJ0]
  refine br_f (fun z => z rfl) (br_t (by rw [f0 169 12 (by omega)]; exact h) ?_)
  rcases hw with ⟨rfl, rfl, rfl⟩ | ⟨rfl, rfl, rfl⟩
  · refine br_f (fun z => z rfl) (br_f (fun z => z rfl) (loop 20 0 J0 _ _ (by omega) (Nat.le_refl _) (fun _ _ _ => rfl) (fun i q1 q2 => absurd q2 (by omega))))
  · refine br_t br_10 (br_t br_10 (loop 525 104 J0 _ _ (by omega) (Nat.le_refl _) (fun _ _ _ => rfl) (fun i q1 q2 => absurd q2 (by omega))))
/-- the model reads a law -/
def fT (I J : Nat → Nat → Int32) : Prop := ∀ p j, ¬ (p = 169 ∧ 6 ≤ j ∧ j ≤ 17) → ¬ (p = 174) → J p j = I p j
theorem rs_M_law {z3 z4 z5 : Option Value} (ho : br_odx I) (h : tk_B b N I)
    (H0 : ∀ f, pl_all N 31 0 (tk_l b N N 0) pl_g0 = .inl f → ∀ J, (∀ p j, ¬ (p = 169 ∧ 6 ≤ j ∧ j ≤ 17) → p ≠ 174 → ¬ (p = 170 ∧ j = 1) → J p j = I p j) → J 169 6 = nI 0 → J 169 16 = nI f.1 → J 169 17 = nI f.2 → J 170 1 = I 170 1 + nI 1 → Q (some (.int (-(nI 10) - nI f.1))) (br_hp n J L))
    (H1 : ∀ y, pl_all N 31 0 (tk_l b N N 0) pl_g0 = .inr y → ∀ J, (∀ p j, ¬ (p = 169 ∧ 6 ≤ j ∧ j ≤ 17) → p ≠ 174 → ¬ (p = 171 ∧ j < 20) → J p j = I p j) → J 169 6 = nI 0 → J 169 16 = nI 0 → J 169 17 = -(nI 1) → J 171 0 = nI 0 → (∀ j, j < 18 → J 171 (j + 1) = y.2 j) → J 171 19 = nI y.1 → Q (some (.int (nI y.1))) (br_hp n J L)) :
    br_r (d + 11) 203 33 [some (.ref 169), some (.int (nI 0)), some (.int (nI N)), z3, z4, z5] [.int (nI 1)] (br_hp n I L) Q := by
  have hN := h.1
  have loop : ∀ f c (ts : List tk_T) (g : Nat → Int32) (J : Nat → Nat → Int32) (z2 z3 z4 z5 : Option Value), c + f = 31 → c ≤ 30 → (∀ p j, ¬ (p = 169 ∧ 6 ≤ j ∧ j ≤ 15) → p ≠ 174 → J p j = I p j) → tk_Mr b N ts J → tk_vd ts → tk_sm ts → J 169 6 = nI 0 → J 169 12 = nI 0 → pm_C g c J → J 174 0 = nI 0 → pl_all N f c ts g = pl_all N 31 0 (tk_l b N N 0) pl_g0 →
      br_r (d + 11) 203 111 [some (.ref 169), some (.int (nI 0)), z2, z3, z4, z5] [] (br_hp n J L) Q := by
    intro f
    induction f with
    | zero => intro c ts g J z2 z3 z4 z5 hc hc30; omega
    | succ f ih =>
      intro c ts g J z2 z3 z4 z5 hc hc30 hJ M hv hs e6 e12 gC e0 he
      have ep : pl_all N (f + 1) c ts g = (if (tk_hd N ts).1 = 42 then .inr (c, g) else if pl_bad (tk_hd N ts).1 = true then .inl (tk_fail 2 (tk_hd N ts)) else if c = 30 then .inl (tk_fail 4 (tk_hd N ts)) else sb (pl_line N (tk_hd N ts).1 ts.tail g) (fun x => sb (pt_k 44 N x.1) (fun t => pl_all N f (c + 1) t x.2))) := rfl
      rw [ep] at he
      refine rb_M_text_111 (br_f (fun z => z e12) ?_)
      rw [M.2.2.2.2.2.1]
      have c34 : nI (tk_k (tk_hd N ts).1) = nI 34 ↔ (tk_hd N ts).1 = 42 := tk_eq (j := 42) (tk_vd_h hv) (by omega)
      rw [c34]
      refine ⟨fun h42 => ?_, fun h42 => br_f (fun z => z rfl) ?_⟩
      · rw [if_pos h42] at he
        refine rs_M_tailT (w := 0) (lo := 0) (hi := 20) (Or.inl ⟨rfl, rfl, rfl⟩) e12 (fun J2 f2 a16 a17 a171 => ?_)
        have h9 := H1 _ he.symm J2 (fun p j q1 q2 q3 => by rw [f2 p j (by omega) (by omega)]; exact hJ p j (by omega) q2) (by rw [f2 169 6 (by omega) (by omega)]; exact e6) a16 a17 (by rw [a171 0 (by omega) (by omega)]; exact e0) (fun j hj => by rw [a171 (j + 1) (by omega) (by omega)]; exact gC.1 j hj) (by rw [a171 19 (by omega) (by omega)]; exact gC.2)
        rw [if_pos rfl, gC.2]
        exact h9
      · rw [if_neg h42] at he
        refine rs_M_line M hv hs e12 gC hc30 (fun fa hf J2 f2 m2 => rb_M_text_135 (rb_M_text_111 (br_t m2.1 (rs_M_tailF m2 (fun J3 f3 a16 a17 a170 => H0 fa ?_ J3 (fun p j q1 q2 q3 => ?_) ?_ a16 a17 ?_))))) (fun y hy J2 f2 M2 hv2 hs2 e122 gC2 => rb_M_text_135 (ih (c + 1) y.1 y.2 J2 _ _ _ _ (by omega) ?_ (fun p j q1 q2 => ?_) M2 hv2 hs2 ?_ e122 gC2 ?_ ?_))
        · rw [← he]
          unfold pl_one at hf
          by_cases hb : pl_bad (tk_hd N ts).1 = true
          · rw [if_pos hb] at hf ⊢
            rw [Sum.inl.inj hf]
          · rw [if_neg hb] at hf ⊢
            by_cases h30 : c = 30
            · rw [if_pos h30] at hf ⊢
              rw [Sum.inl.inj hf]
            · rw [if_neg h30] at hf ⊢
              cases hx : pl_line N (tk_hd N ts).1 ts.tail g with
              | inl f' =>
                rw [sb_l hx] at hf
                show Sum.inl f' = Sum.inl fa
                rw [Sum.inl.inj hf]
              | inr x =>
                rw [sb_r hx] at hf
                rw [sb_i]
                cases hk : pt_k 44 N x.1 with
                | inl f' =>
                  rw [sb_l hk] at hf
                  show Sum.inl f' = Sum.inl fa
                  rw [Sum.inl.inj hf]
                | inr t => rw [sb_r hk] at hf; cases hf
        · rw [f3 p j (by omega) (by omega), f2 p j (by omega) (by omega)]; exact hJ p j (by omega) q2
        · rw [f3 169 6 (by omega) (by omega), f2 169 6 (by omega) (by omega)]; exact e6
        · rw [a170, f2 170 1 (by omega) (by omega), hJ 170 1 (by omega) (by omega)]
        · unfold pl_one at hy
          by_cases hb : pl_bad (tk_hd N ts).1 = true
          · rw [if_pos hb] at hy; cases hy
          · rw [if_neg hb] at hy
            by_cases h30 : c = 30
            · rw [if_pos h30] at hy; cases hy
            · omega
        · rw [f2 p j (by omega) (by omega)]; exact hJ p j (by omega) q2
        · rw [f2 169 6 (by omega) (by omega)]; exact e6
        · rw [f2 174 0 (by omega) (by omega)]; exact e0
        · rw [← he]
          unfold pl_one at hy
          by_cases hb : pl_bad (tk_hd N ts).1 = true
          · rw [if_pos hb] at hy; cases hy
          · rw [if_neg hb] at hy ⊢
            by_cases h30 : c = 30
            · rw [if_pos h30] at hy; cases hy
            · rw [if_neg h30] at hy ⊢
              obtain ⟨x, hx, hy⟩ := sb_inr hy
              obtain ⟨t, hk, hy⟩ := sb_inr hy
              rw [sb_r hx, sb_r hk, ← Sum.inr.inj hy]
  refine rs_M_head (d := d + 3) ho h (fun J z2 z3 z4 z5 f M e6 e12 e14 e15 fresh => ?_)
  refine loop 31 0 (tk_l b N N 0) pl_g0 J _ _ _ _ (by omega) (by omega) f M (tk_ok_vd (tk_l_ok N 0 (Nat.zero_le _))) (tk_l_sm hN N 0) e6 e12 ⟨fun j hj => ?_, ?_⟩ ?_ rfl
  · rw [fresh (j + 1) (by omega)]
    unfold pl_g0
    by_cases e : j = 17
    · rw [if_pos e, if_pos (by omega)]
    · rw [if_neg e, if_neg (by omega)]
  · rw [fresh 19 (by omega), if_neg (by omega)]
  · rw [fresh 0 (by omega), if_neg (by omega)]
end
