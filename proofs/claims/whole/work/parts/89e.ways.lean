set_option maxRecDepth 100000
set_option maxHeartbeats 4000000
/-! the model's table of ways: row k, column x -/
def bt_T (L : Nat → Nat → Int64) (W : Nat → Nat → Int64) : Prop := ∀ k x, k ≤ 40 → x ≤ 16000 → L 177 (16001 * k + x) = W k x
section
variable {d n : Nat} {Q : br_Q} {I : Nat → Nat → Int32} {L : Nat → Nat → Int64} {W : Nat → Nat → Int64}
theorem rs_M_clears {t s : Nat} {z1 z2 : Option Value} (ht : t ≤ 40) (hs : s ≤ 16000) (et : I 169 25 = nI t) (es : I 169 26 = nI s) (hz : ∀ k x, k ≤ 40 → x ≤ 16000 → (t < k ∨ s < x) → L 177 (16001 * k + x) = lN 0)
    (H : ∀ L' : Nat → Nat → Int64, (∀ q j, q ≠ 177 → L' q j = L q j) → bt_T L' (fun k x => if k = 0 ∧ x = 0 then lN 1 else lN 0) → Q none (br_hp n (br_u (br_u (br_u I 169 24 (nI 0)) 169 25 (nI 0)) 169 26 (nI 0)) L')) :
    br_r d 255 0 [some (.ref 169), z1, z2] [] (br_hp n I L) Q := by
  have outer : ∀ m k (L' : Nat → Nat → Int64) (z2 : Option Value), k + m = t + 1 → (∀ q j, q ≠ 177 → L' q j = L q j) → (∀ k' x, k' ≤ 40 → x ≤ 16000 → (k' < k ∨ t < k' ∨ s < x) → L' 177 (16001 * k' + x) = lN 0) →
      br_r d 255 2 [some (.ref 169), some (.int (nI k)), z2] [] (br_hp n I L') Q := by
    intro m
    induction m with
    | zero =>
      intro k L' z2 hk hL h0
      have : k = t + 1 := by omega
      subst this
      refine rb_M_clearsWays_2 (br_t (by rw [et]; exact nI_lt (by omega) (by omega)) (H _ (fun q j hq => by rw [br_u_n (by omega)]; exact hL q j hq) (fun k x hk hx => ?_)))
      show br_u L' 177 0 (lN 1) 177 (16001 * k + x) = (if k = 0 ∧ x = 0 then lN 1 else lN 0)
      by_cases e : k = 0 ∧ x = 0
      · obtain ⟨rfl, rfl⟩ := e
        rw [if_pos ⟨rfl, rfl⟩]; exact br_u_e rfl rfl
      · rw [if_neg e, br_u_n (by omega)]
        exact h0 k x hk hx (by omega)
    | succ m ih =>
      intro k L' z2 hk hL h0
      have inner : ∀ m x (L' : Nat → Nat → Int64), x + m = s + 1 → (∀ q j, q ≠ 177 → L' q j = L q j) → (∀ k' x', k' ≤ 40 → x' ≤ 16000 → (k' < k ∨ t < k' ∨ s < x' ∨ (k' = k ∧ x' < x)) → L' 177 (16001 * k' + x') = lN 0) →
          br_r d 255 12 [some (.ref 169), some (.int (nI k)), some (.int (nI x))] [] (br_hp n I L') Q := by
        intro m
        induction m with
        | zero =>
          intro x L' hx hL h0
          have : x = s + 1 := by omega
          subst this
          refine rb_M_clearsWays_12 (br_t (by rw [es]; exact nI_lt (by omega) (by omega)) ?_)
          rw [nI_add]
          exact ih (k + 1) L' _ (by omega) hL (fun k' x' a b c => h0 k' x' a b (by omega))
        | succ m ihm =>
          intro x L' hx hL h0
          refine rb_M_clearsWays_12 (br_f (by rw [es]; exact nI_nlt (by omega) (by omega)) ?_)
          rw [pk_mul, nI_add, nI_add, nI_clamp (by omega)]
          refine ⟨vp_in_nI (by omega) (by omega), ihm (x + 1) _ (by omega) (fun q j hq => by rw [br_u_n (by omega)]; exact hL q j hq) (fun k' x' a b c => ?_)⟩
          by_cases e : k' = k ∧ x' = x
          · obtain ⟨rfl, rfl⟩ := e
            exact br_u_s
          · rw [br_u_n (by omega)]
            exact h0 k' x' a b (by omega)
      refine rb_M_clearsWays_2 (br_f (by rw [et]; exact nI_nlt (by omega) (by omega)) ?_)
      exact inner (s + 1) 0 L' (by omega) hL (fun k' x' a b c => h0 k' x' a b (by omega))
  exact rb_M_clearsWays_0 (outer (t + 1) 0 L _ (by omega) (fun _ _ _ => rfl) (fun k' x a b c => hz k' x a b (by omega)))
/-- a child more -/
def bt_add (W : Nat → Nat → Int64) (v top s : Nat) : Nat → Nat → Int64 := fun k x => if 1 ≤ k ∧ k ≤ top ∧ v ≤ x ∧ x ≤ s + v then W k x + W (k - 1) (x - v) else W k x
theorem rs_M_adds {v j t s c : Nat} {z3 z4 z5 : Option Value} (hT : bt_T L W) (hj : j ≤ 40) (hc : c < 40) (ht : t ≤ 40) (hs : s + v ≤ 16000) (e24 : I 169 24 = nI c) (e25 : I 169 25 = nI t) (e26 : I 169 26 = nI s)
    (H : ∀ L' : Nat → Nat → Int64, (∀ q i, q ≠ 177 → L' q i = L q i) → bt_T L' (bt_add W v (min j (c + 1)) s) → Q none (br_hp n (br_u (br_u (br_u I 169 25 (nI (max t (min j (c + 1))))) 169 26 (nI (s + v))) 169 24 (nI (c + 1))) L')) :
    br_r d 256 0 [some (.ref 169), some (.int (nI v)), some (.int (nI j)), z3, z4, z5] [] (br_hp n I L) Q := by
  generalize hJ : br_u I 169 25 (nI (max t (min j (c + 1)))) = J at H
  have j24 : J 169 24 = nI c := by rw [← hJ, br_u_n (by omega)]; exact e24
  have j26 : J 169 26 = nI s := by rw [← hJ, br_u_n (by omega)]; exact e26
  generalize htop : min j (c + 1) = top at H hJ
  have outer : ∀ r (L' : Nat → Nat → Int64) (z2 z3 z5 : Option Value), r ≤ top → (∀ q i, q ≠ 177 → L' q i = L q i) → bt_T L' (fun k x => if r < k ∧ k ≤ top ∧ v ≤ x ∧ x ≤ s + v then W k x + W (k - 1) (x - v) else W k x) →
      br_r d 256 44 [some (.ref 169), some (.int (nI v)), z2, z3, some (.int (nI r)), z5] [] (br_hp n J L') Q := by
    intro r
    induction r with
    | zero =>
      intro L' z2 z3 z5 hr hL h0
      refine rb_M_adds_44 (br_t (nI_le (Nat.le_refl 0) (by omega)) ?_)
      rw [j26, nI_add, br_u_n (by omega), j24, nI_add]
      exact H L' hL h0
    | succ r ih =>
      intro L' z2 z3 z5 hr hL h0
      have inner : ∀ m y (L' : Nat → Nat → Int64) (z2 z3 : Option Value), y + m = s + 1 → (∀ q i, q ≠ 177 → L' q i = L q i) → bt_T L' (fun k x => if (r + 1 < k ∧ k ≤ top ∧ v ≤ x ∧ x ≤ s + v) ∨ (k = r + 1 ∧ v ≤ x ∧ x < y + v) then W k x + W (k - 1) (x - v) else W k x) →
          br_r d 256 52 [some (.ref 169), some (.int (nI v)), z2, z3, some (.int (nI (r + 1))), some (.int (nI y))] [] (br_hp n J L') Q := by
        intro m
        induction m with
        | zero =>
          intro y L' z2 z3 hy hL h0
          have : y = s + 1 := by omega
          subst this
          refine rb_M_adds_52 (br_t (by rw [j26]; exact nI_lt (by omega) (by omega)) ?_)
          rw [br_dn, pk_sub (by omega), Nat.add_sub_cancel]
          refine ih L' _ _ _ (by omega) hL (fun k x hk hx => (h0 k x hk hx).trans ?_)
          show (if _ then _ else _) = (if _ then _ else _)
          by_cases e : (r + 1 < k ∧ k ≤ top ∧ v ≤ x ∧ x ≤ s + v) ∨ (k = r + 1 ∧ v ≤ x ∧ x < s + 1 + v)
          · rw [if_pos e, if_pos (by omega)]
          · rw [if_neg e, if_neg (by omega)]
        | succ m ihm =>
          intro y L' z2 z3 hy hL h0
          have q1 := h0 (r + 1) (y + v) (by omega) (by omega)
          have q2 := h0 r y (by omega) (by omega)
          simp only at q1 q2
          rw [if_neg (by omega)] at q1 q2
          refine rb_M_adds_52 (br_f (by rw [j26]; exact nI_nlt (by omega) (by omega)) ?_)
          rw [pk_mul, nI_add, nI_add, pk_sub (by omega), Nat.add_sub_cancel, pk_mul, nI_add, nI_add, nI_clamp (by omega), nI_clamp (by omega)]
          rw [show 16001 * (r + 1) + (y + v) = 16001 * (r + 1) + y + v by omega] at q1
          rw [q1, q2]
          refine ⟨vp_in_nI (by omega) (by omega), vp_in_nI (by omega) (by omega), vp_in_nI (by omega) (by omega), ihm (y + 1) _ _ _ (by omega) (fun q i hq => by rw [br_u_n (by omega)]; exact hL q i hq) (fun k x hk hx => ?_)⟩
          by_cases e : k = r + 1 ∧ x = y + v
          · obtain ⟨rfl, rfl⟩ := e
            rw [br_u_e rfl (by omega)]
            show _ = (if _ then _ else _)
            rw [if_pos (by omega), Nat.add_sub_cancel, Nat.add_sub_cancel]
          · rw [br_u_n (by omega), h0 k x hk hx]
            show (if _ then _ else _) = (if _ then _ else _)
            by_cases e2 : (r + 1 < k ∧ k ≤ top ∧ v ≤ x ∧ x ≤ s + v) ∨ (k = r + 1 ∧ v ≤ x ∧ x < y + v)
            · rw [if_pos e2, if_pos (by omega)]
            · rw [if_neg e2, if_neg (by omega)]
      refine rb_M_adds_44 (br_f (nI_nle (by omega) (by omega)) ?_)
      refine inner (s + 1) 0 L' _ _ (by omega) hL (fun k x hk hx => (h0 k x hk hx).trans ?_)
      show (if _ then _ else _) = (if _ then _ else _)
      by_cases e : r + 1 < k ∧ k ≤ top ∧ v ≤ x ∧ x ≤ s + v
      · rw [if_pos e, if_pos (by omega)]
      · rw [if_neg e, if_neg (by omega)]
  have start : ∀ z2 z3 z5 : Option Value, br_r d 256 44 [some (.ref 169), some (.int (nI v)), z2, z3, some (.int (nI top)), z5] [] (br_hp n J L) Q := fun z2 z3 z5 => by
    refine outer top L z2 z3 z5 (Nat.le_refl _) (fun _ _ _ => rfl) (fun k x hk hx => (hT k x hk hx).trans ?_)
    show _ = (if _ then _ else _)
    rw [if_neg (by omega)]
  refine rb_M_adds_0 ?_
  rw [e24, e25, nI_add, nI_leI (by omega) (by omega), nI_leI (by omega) (by omega), nI_leI (by omega) (by omega)]
  refine ⟨fun h => ⟨fun h2 => ?_, fun h2 => ?_⟩, fun h => ⟨fun h2 => ?_, fun h2 => ?_⟩⟩
  · have e1 : top = j := by omega
    have e2 : max t top = t := by omega
    rw [e2] at hJ
    have := start (some (.int (nI j))) (some (.int (nI j))) z5
    rw [e1] at this; rw [hJ]; exact this
  · have e1 : top = j := by omega
    have e2 : max t top = j := by omega
    rw [e2] at hJ
    have := start (some (.int (nI j))) (some (.int (nI j))) z5
    rw [e1] at this; rw [hJ]; exact this
  · have e1 : top = c + 1 := by omega
    have e2 : max t top = t := by omega
    rw [e2] at hJ
    have := start (some (.int (nI j))) (some (.int (nI (c + 1)))) z5
    rw [e1] at this; rw [hJ]; exact this
  · have e1 : top = c + 1 := by omega
    have e2 : max t top = c + 1 := by omega
    rw [e2] at hJ
    have := start (some (.int (nI j))) (some (.int (nI (c + 1)))) z5
    rw [e1] at this; rw [hJ]; exact this
end
