set_option maxRecDepth 100000
set_option maxHeartbeats 4000000
/-! dealt anew, by the class: row j of the table has sums up to the target, all from it on in one place, and how far it reaches -/
def aw_row (T : Nat) (I : Nat → Nat → Int32) (L : Nat → Nat → Int64) (j : Nat) (S : List Int) : Prop := ∃ h : Nat, h ≤ T + 1 ∧ (I 71 j).toInt = (h : Int) - 1 ∧ (∀ a, a ∈ S → 0 ≤ a ∧ min a (T : Int) < h) ∧ ∀ x, x ≤ T → (x < h ∨ 1 ≤ j) → L 70 (j * (T + 1) + x) = lN (S.countP (fun a => decide (min a (T : Int) = (x : Int))))
theorem an_two (q r : Int → Bool) : ∀ S : List Int, S.countP q = S.countP (fun a => q a && r a) + S.countP (fun a => q a && !r a)
  | [] => rfl
  | a :: S => by
    rw [List.countP_cons, List.countP_cons, List.countP_cons, an_two q r S]
    cases q a <;> cases r a <;> simp <;> omega
section
variable {d n : Nat} {Q : br_Q} {I J : Nat → Nat → Int32} {L : Nat → Nat → Int64}
theorem rs_rowsOf {k : Nat} (hk : k ≤ 20) (H : Q (some (.int (nI k))) (br_hp n I L)) : br_r (d + 1) 59 0 [some (.int (nI k))] [] (br_hp n I L) Q := by
  refine rb_Ways_rowsOf_0 (rs_min ?_)
  rw [br_minN (by omega) (by omega), show min k 20 = k by omega]
  refine rb_Ways_rowsOf_7 (rs_max ?_)
  rw [br_maxN (by omega) (by omega), show max 0 k = k by omega]
  exact rb_Ways_rowsOf_10 H
theorem rs_spread {T f t h v : Nat} {x3 : Int32} {S0 S : List Int} {z5 z6 z7 z8 : Option Value} (eT : I 69 2 = nI T) (hT : T ≤ 8000) (hv : v ≤ 400) (hft : f + T < t) (ht : t + T < 168021) (hh : h ≤ T + 1) (hx : x3.toInt = (h : Int) - 1)
    (hS : ∀ a, a ∈ S → 0 ≤ a ∧ min a (T : Int) < h) (hf : ∀ x, x < h → L 70 (f + x) = lN (S.countP (fun a => decide (min a (T : Int) = (x : Int))))) (h0 : ∀ x, x ≤ T → L 70 (t + x) = lN (S0.countP (fun a => decide (min a (T : Int) = (x : Int)))))
    (H : ∀ L' : Nat → Nat → Int64, (∀ q j, ¬ (q = 70 ∧ t ≤ j ∧ j ≤ t + T) → L' q j = L q j) → (∀ x, x ≤ T → L' 70 (t + x) = lN ((S0 ++ S.map (· + (v : Int))).countP (fun a => decide (min a (T : Int) = (x : Int))))) → Q none (br_hp n I L')) :
    br_r (d + 1) 119 0 [some (.ref 69), some (.int (nI f)), some (.int (nI t)), some (.int x3), some (.int (nI v)), z5, z6, z7, z8] [] (br_hp n I L) Q := by
  have n0 : (nI 0).toInt = 0 := nI_toInt (by omega)
  have n1 : (nI 1).toInt = 1 := nI_toInt (by omega)
  have eu : br_min (x3 + nI 1) (br_max (nI 0) (I 69 2 - nI v)) = nI (min h (T - v)) := by
    have e1 : (x3 + nI 1).toInt = h := by rw [br_addT (by omega) (by omega)]; omega
    have e2 : (I 69 2 - nI v).toInt = (T : Int) - v := by rw [eT]; exact pk_sub_toInt (by omega) (by omega)
    rw [br_eqT, br_minT, br_maxT, e1, e2, n0, nI_toInt (by omega)]
    omega
  generalize hu : min h (T - v) = u at eu
  -- those that reach the target
  have loop2 : ∀ m y (L' : Nat → Nat → Int64) (z5 : Option Value), y + m = h → u ≤ y → (∀ q j, ¬ (q = 70 ∧ t ≤ j ∧ j ≤ t + T) → L' q j = L q j) → (∀ x, x ≤ T → L' 70 (t + x) = lN (S0.countP (fun a => decide (min a (T : Int) = (x : Int))) + S.countP (fun a => decide (min (a + (v : Int)) (T : Int) = (x : Int)) && decide (min a (T : Int) < (u : Int))))) →
      br_r (d + 1) 119 98 [some (.ref 69), some (.int (nI f)), some (.int (nI t)), some (.int x3), some (.int (nI v)), z5, some (.long (lN (S.countP (fun a => decide ((u : Int) ≤ min a (T : Int)) && decide (min a (T : Int) < (y : Int)))))), none, some (.int (nI y))] [] (br_hp n I L') Q := by
    intro m
    induction m with
    | zero =>
      intro y L' z5 hy huy hL hx2
      have : y = h := by omega
      subst this
      refine rb_Ways_spread_98 (br_t ?_ ?_)
      · rw [br_ltT, nI_toInt (by omega)]; omega
      · rw [eT, nI_add, nI_clamp (by omega), hx2 T (Nat.le_refl _), lN_add]
        refine ⟨vp_in_nI (by omega) (by omega), vp_in_nI (by omega) (by omega), H _ (fun q j hq => by rw [br_u_n (by omega)]; exact hL q j hq) (fun x hxT => ?_)⟩
        rw [List.countP_append, List.countP_map]
        have es := an_two (fun a => decide (min (a + (v : Int)) (T : Int) = (x : Int))) (fun a => decide (min a (T : Int) < (u : Int))) S
        by_cases h5 : x = T
        · subst h5
          rw [br_u_s]
          congr 1
          have e1 : S.countP (fun a => decide ((u : Int) ≤ min a (x : Int)) && decide (min a (x : Int) < (y : Int))) = S.countP (fun a => decide (min (a + (v : Int)) (x : Int) = (x : Int)) && !decide (min a (x : Int) < (u : Int))) := by
            refine an_cc (fun a ha => ?_)
            have := hS a ha
            simp only [Bool.and_eq_true, Bool.not_eq_true', decide_eq_true_eq, decide_eq_false_iff_not]; omega
          have e2 : S.countP ((fun a => decide (min a (x : Int) = (x : Int))) ∘ (fun a => a + (v : Int))) = S.countP (fun a => decide (min (a + (v : Int)) (x : Int) = (x : Int))) := rfl
          rw [e1, e2, es]; omega
        · rw [br_u_n (by omega), hx2 x hxT]
          congr 2
          refine an_cc (fun a ha => ?_)
          have := hS a ha
          simp only [Function.comp, Bool.and_eq_true, decide_eq_true_eq]; omega
    | succ m ih =>
      intro y L' z5 hy huy hL hx2
      have nx := fun z5 => ih (y + 1) L' z5 (by omega) (by omega) hL hx2
      refine rb_Ways_spread_98 (br_f ?_ ?_)
      · rw [br_ltT, nI_toInt (by omega)]; omega
      · rw [nI_add, nI_clamp (by omega), hL 70 (f + y) (by omega), hf y (by omega), lN_add, nI_add]
        refine ⟨vp_in_nI (by omega) (by omega), ?_⟩
        have e : S.countP (fun a => decide ((u : Int) ≤ min a (T : Int)) && decide (min a (T : Int) < ((y + 1 : Nat) : Int))) = _ := an_cs (fun a => decide ((u : Int) ≤ min a (T : Int))) (fun a => min a (T : Int)) (y : Int) S
        have e2 : S.countP (fun a => decide ((u : Int) ≤ min a (T : Int)) && decide (min a (T : Int) = (y : Int))) = S.countP (fun a => decide (min a (T : Int) = (y : Int))) := by
          refine an_cc (fun a ha => ?_)
          simp only [Bool.and_eq_true, decide_eq_true_eq]; omega
        rw [e2] at e
        rw [e] at nx
        exact nx _
  have loop1 : ∀ m y (L' : Nat → Nat → Int64), y + m = u → (∀ q j, ¬ (q = 70 ∧ t ≤ j ∧ j ≤ t + T) → L' q j = L q j) → (∀ x, x ≤ T → L' 70 (t + x) = lN (S0.countP (fun a => decide (min a (T : Int) = (x : Int))) + S.countP (fun a => decide (min (a + (v : Int)) (T : Int) = (x : Int)) && decide (min a (T : Int) < (y : Int))))) →
      br_r (d + 1) 119 54 [some (.ref 69), some (.int (nI f)), some (.int (nI t)), some (.int x3), some (.int (nI v)), some (.int (nI u)), some (.int (nI y)), z7, z8] [] (br_hp n I L') Q := by
    intro m
    induction m with
    | zero =>
      intro y L' hy hL hx2
      have : y = u := by omega
      subst this
      have l2 := loop2 (h - y) y L' (some (.int (nI y))) (by omega) (Nat.le_refl _) hL hx2
      have e0 : S.countP (fun a => decide ((y : Int) ≤ min a (T : Int)) && decide (min a (T : Int) < (y : Int))) = 0 := by
        refine an_c0 (fun a _ => ?_)
        simp only [Bool.and_eq_true, decide_eq_true_eq]; omega
      rw [e0] at l2
      exact rb_Ways_spread_54 (br_t (nI_le (Nat.le_refl _) (by omega)) l2)
    | succ m ih =>
      intro y L' hy hL hx2
      refine rb_Ways_spread_54 (br_f (nI_ge (by omega) (by omega)) ?_)
      rw [nI_add, nI_add, nI_add, nI_clamp (by omega), nI_clamp (by omega), nI_add, show t + y + v = t + (y + v) by omega, hx2 (y + v) (by omega), hL 70 (f + y) (by omega), hf y (by omega), lN_add]
      refine ⟨vp_in_nI (by omega) (by omega), vp_in_nI (by omega) (by omega), vp_in_nI (by omega) (by omega), ih (y + 1) _ (by omega) (fun q j hq => by rw [br_u_n (by omega)]; exact hL q j hq) (fun x hxT => ?_)⟩
      have e : S.countP (fun a => decide (min (a + (v : Int)) (T : Int) = (x : Int)) && decide (min a (T : Int) < ((y + 1 : Nat) : Int))) = _ := an_cs (fun a => decide (min (a + (v : Int)) (T : Int) = (x : Int))) (fun a => min a (T : Int)) (y : Int) S
      rw [e]
      by_cases h5 : x = y + v
      · subst h5
        rw [br_u_s]
        have e2 : S.countP (fun a => decide (min (a + (v : Int)) (T : Int) = ((y + v : Nat) : Int)) && decide (min a (T : Int) = (y : Int))) = S.countP (fun a => decide (min a (T : Int) = (y : Int))) := by
          refine an_cc (fun a ha => ?_)
          simp only [Bool.and_eq_true, decide_eq_true_eq]; omega
        rw [e2, Nat.add_assoc]
      · rw [br_u_n (by omega), hx2 x hxT, an_c0 (p := fun a => decide (min (a + (v : Int)) (T : Int) = (x : Int)) && decide (min a (T : Int) = (y : Int))) (fun a _ => ?_), Nat.add_zero]
        simp only [Bool.and_eq_true, decide_eq_true_eq]; omega
  have g1 : ¬ (I 69 2 < x3) := by rw [eT, br_ltT, nI_toInt (by omega)]; omega
  have g2 : I 69 2 < nI 168021 - nI t := by rw [eT, pk_sub (by omega)]; exact nI_lt (by omega) (by omega)
  refine rb_Ways_spread_0 (br_f (nI_nlt (by omega) (by omega)) (br_f (nI_nlt (by omega) (by omega)) (br_f g1 (br_t g2 (rs_max (rb_Ways_spread_46 (rs_min ?_)))))))
  rw [eu]
  refine rb_Ways_spread_49 (loop1 u 0 L (by omega) (fun _ _ _ => rfl) (fun x hxT => ?_))
  rw [h0 x hxT, an_c0 (p := fun a => decide (min (a + (v : Int)) (T : Int) = (x : Int)) && decide (min a (T : Int) < ((0 : Nat) : Int))) (fun a ha => ?_), Nat.add_zero]
  have := hS a ha
  simp only [Bool.and_eq_true, decide_eq_true_eq]; omega
theorem aw_mul {j j' w : Nat} (h : j = j' + 1) : j * w = j' * w + w := by subst h; rw [Nat.add_mul, Nat.one_mul]
theorem aw_le {j k w : Nat} (h : j ≤ k) : j * w ≤ k * w := Nat.mul_le_mul_right w h
theorem rs_offer {T v lo mo : Nat} {S : Nat → List Int} {z4 : Option Value} (eT : I 69 2 = nI T) (eW : I 69 3 = nI (T + 1)) (hT : T ≤ 8000) (hv : v ≤ 400) (hlo : 1 ≤ lo) (hmo : mo ≤ 20) (hlm : lo ≤ mo + 1) (hS : ∀ j, lo - 1 ≤ j → j ≤ mo → aw_row T I L j (S j))
    (H : ∀ (I' : Nat → Nat → Int32) (L' : Nat → Nat → Int64), (∀ p j, ¬ (p = 71 ∧ lo ≤ j ∧ j ≤ mo) → I' p j = I p j) → (∀ q j, ¬ (q = 70 ∧ lo * (T + 1) ≤ j ∧ j < (mo + 1) * (T + 1)) → L' q j = L q j) → (∀ j, lo ≤ j → j ≤ mo → aw_row T I' L' j (S j ++ (S (j - 1)).map (· + (v : Int)))) → Q none (br_hp n I' L')) :
    br_r (d + 2) 118 0 [some (.ref 69), some (.int (nI v)), some (.int (nI lo)), some (.int (nI mo)), z4] [] (br_hp n I L) Q := by
  have loop : ∀ m j (I' : Nat → Nat → Int32) (L' : Nat → Nat → Int64) (z3 : Option Value), j + 1 = lo + m → j ≤ mo → (∀ p i, ¬ (p = 71 ∧ j + 1 ≤ i ∧ i ≤ mo) → I' p i = I p i) → (∀ q i, ¬ (q = 70 ∧ (j + 1) * (T + 1) ≤ i ∧ i < (mo + 1) * (T + 1)) → L' q i = L q i) → (∀ i, j + 1 ≤ i → i ≤ mo → aw_row T I' L' i (S i ++ (S (i - 1)).map (· + (v : Int)))) →
      br_r (d + 2) 118 6 [some (.ref 69), some (.int (nI v)), some (.int (nI lo)), z3, some (.int (nI j))] [] (br_hp n I' L') Q := by
    intro m
    induction m with
    | zero =>
      intro j I' L' z3 hj hjm hI hL hr
      refine rb_Ways_offer_6 (rs_max ?_)
      rw [br_maxN (by omega) (by omega), show max 1 lo = lo by omega]
      refine rb_Ways_offer_13 (br_t (nI_lt (by omega) (by omega)) (H I' L' (fun p i hp => hI p i (by omega)) (fun q i hq => hL q i ?_) (fun i h1 h2 => hr i (by omega) h2)))
      rw [show lo = j + 1 by omega] at hq
      exact hq
    | succ m ih =>
      intro j I' L' z3 hj hjm hI hL hr
      obtain ⟨j', rfl⟩ : ∃ j', j = j' + 1 := ⟨j - 1, by omega⟩
      have w1 : (j' + 1) * (T + 1) = j' * (T + 1) + (T + 1) := aw_mul rfl
      have w2 : (j' + 1 + 1) * (T + 1) = (j' + 1) * (T + 1) + (T + 1) := aw_mul rfl
      have w3 : (j' + 1 + 1) * (T + 1) ≤ (mo + 1) * (T + 1) := aw_le (by omega)
      have w4 : (mo + 1) * (T + 1) ≤ 21 * (T + 1) := aw_le (by omega)
      obtain ⟨h, a1, a2, a3, a4⟩ := hS j' (by omega) (by omega)
      obtain ⟨k, b1, b2, b3, b4⟩ := hS (j' + 1) (by omega) hjm
      have iT : I' 69 2 = nI T := by rw [hI 69 2 (by omega)]; exact eT
      have iW : I' 69 3 = nI (T + 1) := by rw [hI 69 3 (by omega)]; exact eW
      have i0 : I' 71 j' = I 71 j' := hI 71 j' (by omega)
      have i1 : I' 71 (j' + 1) = I 71 (j' + 1) := hI 71 (j' + 1) (by omega)
      refine rb_Ways_offer_6 (rs_max ?_)
      rw [br_maxN (by omega) (by omega), show max 1 lo = lo by omega]
      refine rb_Ways_offer_13 (br_f (nI_nlt (by omega) (by omega)) ?_)
      rw [pk_sub (by omega), Nat.add_sub_cancel, nI_clamp (by omega), iW, i0, pk_mul, pk_mul]
      refine ⟨vp_in_nI (by omega) (by omega), rs_max ?_⟩
      rw [br_maxN (by omega) (by omega), show max 0 v = v by omega]
      refine rb_Ways_offer_47 (rs_spread (T := T) (h := h) (S0 := S (j' + 1)) (S := S j') iT hT hv (by omega) (by omega) a1 a2 a3 (fun x hx => ?_) (fun x hx => ?_) (fun L2 hL2 hr2 => rb_Ways_offer_50 ?_))
      · rw [hL 70 _ (by omega)]; exact a4 x (by omega) (Or.inl hx)
      · rw [hL 70 _ (by omega)]; exact b4 x hx (Or.inr (by omega))
      · have frL : ∀ q i, ¬ (q = 70 ∧ (j' + 1) * (T + 1) ≤ i ∧ i < (mo + 1) * (T + 1)) → L2 q i = L q i := fun q i hq => by
          rw [hL2 q i (by omega)]; exact hL q i (by omega)
        have oth : ∀ (I2 : Nat → Nat → Int32), (∀ i, i ≠ j' + 1 → I2 71 i = I' 71 i) → ∀ i, j' + 1 + 1 ≤ i → i ≤ mo → aw_row T I2 L2 i (S i ++ (S (i - 1)).map (· + (v : Int))) := by
          intro I2 h2 i h3 h4
          obtain ⟨h5, c1, c2, c3, c4⟩ := hr i h3 h4
          have w5 : (j' + 1 + 1) * (T + 1) ≤ i * (T + 1) := aw_le h3
          refine ⟨h5, c1, by rw [h2 i (by omega)]; exact c2, c3, fun x hx h6 => ?_⟩
          rw [hL2 70 _ (by omega)]; exact c4 x hx h6
        rw [pk_sub (by omega), Nat.add_sub_cancel, nI_clamp (by omega), i0, br_dn, pk_sub (by omega), Nat.add_sub_cancel]
        have n0 : (nI 0).toInt = 0 := nI_toInt (by omega)
        refine ⟨vp_in_nI (by omega) (by omega), fun h7 => ?_, fun h7 => ⟨vp_in_nI (by omega) (by omega), vp_in_nI (by omega) (by omega), rs_min (rb_Ways_offer_93 (rs_max (rb_Ways_offer_96 ?_)))⟩⟩
        · rw [br_ltT, n0] at h7
          have hnil : S j' = [] := by
            cases hS2 : S j' with
            | nil => rfl
            | cons a t =>
              have := a3 a (by rw [hS2]; exact List.mem_cons_self)
              omega
          refine ih j' I' L2 _ (by omega) (by omega) (fun p i hp => hI p i (by omega)) frL (fun i h3 h4 => ?_)
          by_cases h8 : i = j' + 1
          · subst h8
            have e9 : S (j' + 1) ++ (S (j' + 1 - 1)).map (· + (v : Int)) = S (j' + 1) := by
              rw [Nat.add_sub_cancel, hnil, List.map_nil, List.append_nil]
            rw [hnil, List.map_nil, List.append_nil] at hr2
            rw [e9]
            exact ⟨k, b1, by rw [i1]; exact b2, b3, fun x hx _ => hr2 x hx⟩
          · exact oth I' (fun _ _ => rfl) i (by omega) h4
        · rw [br_ltT, n0] at h7
          rw [nI_clamp (by omega), iT, i1]
          have ev : (nI v).toInt = v := nI_toInt (by omega)
          have e1 : (br_max (I 71 (j' + 1)) (br_min (nI T) (I 71 j' + nI v))).toInt = max ((k : Int) - 1) (min (T : Int) ((h : Int) - 1 + v)) := by
            rw [br_maxT, br_minT, nI_toInt (by omega), br_addT (by omega) (by omega), a2, b2, ev]
          generalize br_max (I 71 (j' + 1)) (br_min (nI T) (I 71 j' + nI v)) = y at e1
          refine ⟨vp_in_nI (by omega) (by omega), ?_⟩
          rw [br_dn, pk_sub (by omega), Nat.add_sub_cancel]
          refine ih j' _ L2 _ (by omega) (by omega) (fun p i hp => by rw [br_u_n (by omega)]; exact hI p i (by omega)) frL (fun i h3 h4 => ?_)
          by_cases h8 : i = j' + 1
          · subst h8
            rw [Nat.add_sub_cancel]
            refine ⟨(y.toInt + 1).toNat, by omega, by rw [br_u_s]; omega, fun a ha => ?_, fun x hx _ => hr2 x hx⟩
            rcases List.mem_append.mp ha with ha | ha
            · have := b3 a ha; omega
            · obtain ⟨a', ha', e9⟩ := List.mem_map.mp ha
              have := a3 a' ha'
              omega
          · exact oth _ (fun i' hi' => br_u_n (by omega)) i (by omega) h4
  refine rb_Ways_offer_0 (rs_rowsOf hmo ?_)
  refine rb_Ways_offer_4 ?_
  obtain ⟨k, hk⟩ : ∃ k, mo + 1 = lo + k := ⟨mo + 1 - lo, by omega⟩
  exact loop k mo I L _ hk (Nat.le_refl _) (fun _ _ _ => rfl) (fun _ _ _ => rfl) (fun i h1 h2 => absurd h1 (by omega))
/-- a room is opened -/
theorem rs_open {T k : Nat} {z2 z3 : Option Value} (eW : I 69 3 = nI (T + 1)) (hT : T ≤ 8000) (hk : k ≤ 20)
    (H : ∀ (I' : Nat → Nat → Int32) (L' : Nat → Nat → Int64), (∀ p j, ¬ (p = 71 ∧ 1 ≤ j) → I' p j = I p j) → (∀ q j, ¬ (q = 70 ∧ T + 1 ≤ j) → L' q j = L q j) → (∀ j, 1 ≤ j → j ≤ k → aw_row T I' L' j []) → Q none (br_hp n I' L')) :
    br_r (d + 2) 115 0 [some (.ref 69), some (.int (nI k)), z2, z3] [] (br_hp n I L) Q := by
  have w4 : (k + 1) * (T + 1) ≤ 21 * (T + 1) := aw_le (by omega)
  have w5 : 1 * (T + 1) ≤ (k + 1) * (T + 1) := aw_le (by omega)
  have second : ∀ (L' : Nat → Nat → Int64), (∀ q j, ¬ (q = 70 ∧ T + 1 ≤ j) → L' q j = L q j) → (∀ j, T + 1 ≤ j → j < (k + 1) * (T + 1) → L' 70 j = lN 0) → ∀ z1 m j (I' : Nat → Nat → Int32), j + m = k + 1 → 1 ≤ j → (∀ p i, ¬ (p = 71 ∧ 1 ≤ i) → I' p i = I p i) → (∀ i, 1 ≤ i → i < j → I' 71 i = -(nI 1)) →
      br_r (d + 2) 115 27 [some (.ref 69), z1, some (.int (nI k)), some (.int (nI j))] [] (br_hp n I' L') Q := by
    intro L' hL hz z1 m
    induction m with
    | zero =>
      intro j I' hj h1 hI hr
      refine rb_Ways_open_27 (br_t (nI_lt (by omega) (by omega)) (H I' L' hI hL (fun i h2 h3 => ⟨0, by omega, ?_, fun a ha => (by cases ha), fun x hx _ => ?_⟩)))
      · rw [hr i h2 (by omega), br_negT (by omega)]; omega
      · have w1 : 1 * (T + 1) ≤ i * (T + 1) := aw_le h2
        have w2 : (i + 1) * (T + 1) ≤ (k + 1) * (T + 1) := aw_le (by omega)
        have w3 : (i + 1) * (T + 1) = i * (T + 1) + (T + 1) := aw_mul rfl
        exact hz _ (by omega) (by omega)
    | succ m ih =>
      intro j I' hj h1 hI hr
      refine rb_Ways_open_27 (br_f (nI_nlt (by omega) (by omega)) ⟨vp_in_nI (by omega) (by omega), ?_⟩)
      rw [nI_clamp (by omega), nI_add]
      refine ih (j + 1) _ (by omega) (by omega) (fun p i hp => by rw [br_u_n (by omega)]; exact hI p i hp) (fun i h2 h3 => ?_)
      by_cases h4 : i = j
      · subst h4; rw [br_u_s]
      · rw [br_u_n (by omega)]; exact hr i h2 (by omega)
  have fill : ∀ zz m y (L' : Nat → Nat → Int64) (z1 : Option Value), y + m = (k + 1) * (T + 1) → T + 1 ≤ y → (∀ q j, ¬ (q = 70 ∧ T + 1 ≤ j) → L' q j = L q j) → (∀ j, T + 1 ≤ j → j < y → L' 70 j = lN 0) →
      br_r (d + 1) 116 10 [some (.ref 70), z1, some (.int (nI ((k + 1) * (T + 1)))), some (.long (lN 0)), none, some (.int (nI y))] [] (br_hp n I L') (fun v h => br_r (d + 2) 115 25 [some (.ref 69), zz, some (.int (nI k)), z3] (v.toList ++ []) (br_bk h) Q) := by
    intro zz m
    induction m with
    | zero =>
      intro y L' z1 hy h1 hL hz
      have : y = (k + 1) * (T + 1) := by omega
      subst this
      exact rb_Arrays_fill_aJIIJ_10 (br_t (nI_le (Nat.le_refl _) (by omega)) (rb_Ways_open_25 (second L' hL hz _ k 1 I (by omega) (Nat.le_refl _) (fun _ _ _ => rfl) (fun i h2 h3 => absurd h2 (by omega)))))
    | succ m ih =>
      intro y L' z1 hy h1 hL hz
      refine rb_Arrays_fill_aJIIJ_10 (br_f (nI_ge (by omega) (by omega)) ⟨rfl, by omega, vp_in_nI (n := y) (N := 168021) (by omega) (by omega), ?_⟩)
      rw [nI_clamp (by omega), nI_add]
      refine ih (y + 1) _ _ (by omega) (by omega) (fun q j hq => by rw [br_u_n (by omega)]; exact hL q j hq) (fun j h2 h3 => ?_)
      by_cases h4 : j = y
      · subst h4; rw [br_u_s]
      · rw [br_u_n (by omega)]; exact hz j h2 (by omega)
  refine rb_Ways_open_0 (rs_rowsOf hk ?_)
  refine rb_Ways_open_4 ?_
  rw [eW, nI_add, pk_mul]
  refine rb_Arrays_fill_aJIIJ_0 ⟨rfl, rb_Arrays_rangeCheck_0 (br_t (nI_le (by omega) (by omega)) (br_t (nI_le (by omega) (by omega)) (br_t (nI_le (b := 168021) (by omega) (by omega)) (rb_Arrays_fill_aJIIJ_7 (fill _ _ (T + 1) L _ (Nat.add_sub_of_le (by omega)) (Nat.le_refl _) (fun _ _ _ => rfl) (fun j h1 h2 => absurd h1 (by omega)))))))⟩
theorem rs_close {T k : Nat} {P : List Int} {z2 : Option Value} (eW : I 69 3 = nI (T + 1)) (hT : T ≤ 8000) (hk : 1 ≤ k) (hk2 : k ≤ 20) (hr : aw_row T I L k P)
    (H : ∀ (I' : Nat → Nat → Int32) (L' : Nat → Nat → Int64), (∀ p j, ¬ (p = 71 ∧ j = 0) → I' p j = I p j) → (∀ q j, q ≠ 70 → L' q j = L q j) → aw_row T I' L' 0 P → Q none (br_hp n I' L')) :
    br_r (d + 2) 120 0 [some (.ref 69), some (.int (nI k)), z2] [] (br_hp n I L) Q := by
  have w4 : k * (T + 1) ≤ 20 * (T + 1) := aw_le hk2
  have w5 : 1 * (T + 1) ≤ k * (T + 1) := aw_le hk
  obtain ⟨h, a1, a2, a3, a4⟩ := hr
  refine rb_Ways_close_0 (rs_rowsOf hk2 ?_)
  refine rb_Ways_close_4 ?_
  rw [eW, pk_mul, nI_clamp (by omega), nI_clamp (by omega), nI_clamp (by omega)]
  refine ⟨nI_pos (by omega), nI_pos (by omega), by omega, by omega, vp_in_nI (by omega) (by omega), H _ _ (fun p j hp => br_u_n hp) (fun q j hq => if_neg (fun z => hq z.1)) ⟨h, a1, by rw [br_u_s]; exact a2, a3, fun x hx _ => ?_⟩⟩
  have e := a4 x hx (Or.inr hk)
  rw [← e]
  show br_cp L 70 70 (k * (T + 1)) 0 (T + 1) 70 (0 * (T + 1) + x) = _
  unfold br_cp
  rw [if_pos ⟨rfl, by omega, by omega⟩]
  congr 1; omega
end
