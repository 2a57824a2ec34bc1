set_option maxRecDepth 100000
set_option maxHeartbeats 4000000
section
variable {d n : Nat} {Q : br_Q} {I : Nat → Nat → Int32} {L : Nat → Nat → Int64} {W : Nat → Nat → Int64}
/-- a room is closed: its row becomes the first -/
theorem rs_M_closes {j t s : Nat} {z2 z3 : Option Value} (hT : bt_T L W) (hj : 1 ≤ j) (hj2 : j ≤ 40) (ht : t ≤ 40) (hs : s ≤ 16000) (e25 : I 169 25 = nI t) (e26 : I 169 26 = nI s) (hz : ∀ k x, k ≤ 40 → x ≤ 16000 → (t < k ∨ s < x) → W k x = lN 0)
    (H : ∀ L' : Nat → Nat → Int64, (∀ q i, q ≠ 177 → L' q i = L q i) → bt_T L' (fun k x => if k = 0 then W j x else lN 0) → Q none (br_hp n (br_u (br_u I 169 24 (nI 0)) 169 25 (nI 0)) L')) :
    br_r d 257 0 [some (.ref 169), some (.int (nI j)), z2, z3] [] (br_hp n I L) Q := by
  have rows : ∀ m k (L' : Nat → Nat → Int64) (z1 z3 : Option Value), k + m = max (t + 1) 1 → 1 ≤ k → (∀ q i, q ≠ 177 → L' q i = L q i) → bt_T L' (fun k' x => if k' = 0 then W j x else if k' < k then lN 0 else W k' x) →
      br_r d 257 36 [some (.ref 169), z1, some (.int (nI k)), z3] [] (br_hp n I L') Q := by
    intro m
    induction m with
    | zero =>
      intro k L' z1 z3 hk h1 hL h0
      refine rb_M_closes_36 (br_t (by rw [e25]; exact nI_lt (by omega) (by omega)) (H L' hL (fun k' x a b => (h0 k' x a b).trans ?_)))
      show (if _ then _ else if _ then _ else _) = (if _ then _ else _)
      by_cases e : k' = 0
      · rw [if_pos e, if_pos e]
      · rw [if_neg e, if_neg e]
        by_cases e2 : k' < k
        · rw [if_pos e2]
        · rw [if_neg e2]; exact hz k' x a b (by omega)
    | succ m ih =>
      intro k L' z1 z3 hk h1 hL h0
      have cols : ∀ m y (L' : Nat → Nat → Int64), y + m = s + 1 → (∀ q i, q ≠ 177 → L' q i = L q i) → bt_T L' (fun k' x => if k' = 0 then W j x else if k' < k ∨ (k' = k ∧ x < y) then lN 0 else W k' x) →
          br_r d 257 46 [some (.ref 169), z1, some (.int (nI k)), some (.int (nI y))] [] (br_hp n I L') Q := by
        intro m
        induction m with
        | zero =>
          intro y L' hy hL h0
          have : y = s + 1 := by omega
          subst this
          refine rb_M_closes_46 (br_t (by rw [e26]; exact nI_lt (by omega) (by omega)) ?_)
          rw [nI_add]
          refine ih (k + 1) L' _ _ (by omega) (by omega) hL (fun k' x a b => (h0 k' x a b).trans ?_)
          show (if _ then _ else if _ then _ else _) = (if _ then _ else if _ then _ else _)
          by_cases e : k' = 0
          · rw [if_pos e, if_pos e]
          · rw [if_neg e, if_neg e]
            by_cases e2 : k' < k ∨ (k' = k ∧ x < s + 1)
            · rw [if_pos e2, if_pos (by omega)]
            · rw [if_neg e2]
              by_cases e3 : k' < k + 1
              · rw [if_pos e3]; exact hz k' x a b (by omega)
              · rw [if_neg e3]
        | succ m ihm =>
          intro y L' hy hL h0
          refine rb_M_closes_46 (br_f (by rw [e26]; exact nI_nlt (by omega) (by omega)) ?_)
          rw [pk_mul, nI_add, nI_add, nI_clamp (by omega)]
          refine ⟨vp_in_nI (by omega) (by omega), ihm (y + 1) _ (by omega) (fun q i hq => by rw [br_u_n (by omega)]; exact hL q i hq) (fun k' x a b => ?_)⟩
          show br_u L' 177 (16001 * k + y) (lN 0) 177 (16001 * k' + x) = (if _ then _ else if _ then _ else _)
          by_cases e0 : k' = k ∧ x = y
          · obtain ⟨rfl, rfl⟩ := e0
            rw [br_u_s, if_neg (by omega), if_pos (by omega)]
          · rw [br_u_n (by omega)]
            refine (h0 k' x a b).trans ?_
            show (if _ then _ else if _ then _ else _) = (if _ then _ else if _ then _ else _)
            by_cases e : k' = 0
            · rw [if_pos e, if_pos e]
            · rw [if_neg e, if_neg e]
              by_cases e2 : k' < k ∨ (k' = k ∧ x < y)
              · rw [if_pos e2, if_pos (by omega)]
              · rw [if_neg e2, if_neg (by omega)]
      refine rb_M_closes_36 (br_f (by rw [e25]; exact nI_nlt (by omega) (by omega)) (cols (s + 1) 0 L' (by omega) hL (fun k' x a b => (h0 k' x a b).trans ?_)))
      show (if _ then _ else if _ then _ else _) = (if _ then _ else if _ then _ else _)
      by_cases e : k' = 0
      · rw [if_pos e, if_pos e]
      · rw [if_neg e, if_neg e]
        by_cases e2 : k' < k
        · rw [if_pos e2, if_pos (by omega)]
        · rw [if_neg e2, if_neg (by omega)]
  have first : ∀ m y (L' : Nat → Nat → Int64) (z3 : Option Value), y + m = s + 1 → (∀ q i, q ≠ 177 → L' q i = L q i) → bt_T L' (fun k x => if k = 0 ∧ x < y then W j x else W k x) →
      br_r d 257 2 [some (.ref 169), some (.int (nI j)), some (.int (nI y)), z3] [] (br_hp n I L') Q := by
    intro m
    induction m with
    | zero =>
      intro y L' z3 hy hL h0
      have : y = s + 1 := by omega
      subst this
      refine rb_M_closes_2 (br_t (by rw [e26]; exact nI_lt (by omega) (by omega)) (rows (max (t + 1) 1 - 1) 1 L' _ _ (by omega) (by omega) hL (fun k x a b => (h0 k x a b).trans ?_)))
      show (if _ then _ else _) = (if _ then _ else if _ then _ else _)
      by_cases e : k = 0
      · rw [if_pos e]
        by_cases e2 : x < s + 1
        · rw [if_pos ⟨e, e2⟩]
        · rw [if_neg (fun z => e2 z.2), hz k x a b (by omega), hz j x hj2 b (by omega)]
      · rw [if_neg (fun z => e z.1), if_neg e, if_neg (by omega)]
    | succ m ih =>
      intro y L' z3 hy hL h0
      have q1 := h0 j y hj2 (by omega)
      simp only at q1
      rw [if_neg (by omega)] at q1
      refine rb_M_closes_2 (br_f (by rw [e26]; exact nI_nlt (by omega) (by omega)) ?_)
      rw [pk_mul, nI_add, nI_add, nI_clamp (by omega), nI_clamp (by omega), q1]
      refine ⟨vp_in_nI (by omega) (by omega), vp_in_nI (by omega) (by omega), ih (y + 1) _ _ (by omega) (fun q i hq => by rw [br_u_n (by omega)]; exact hL q i hq) (fun k x a b => ?_)⟩
      show br_u L' 177 y (W j y) 177 (16001 * k + x) = (if _ then _ else _)
      by_cases e0 : k = 0 ∧ x = y
      · obtain ⟨rfl, rfl⟩ := e0
        rw [br_u_e rfl (by omega), if_pos (by omega)]
      · rw [br_u_n (by omega)]
        refine (h0 k x a b).trans ?_
        show (if _ then _ else _) = (if _ then _ else _)
        by_cases e : k = 0 ∧ x < y
        · rw [if_pos e, if_pos (by omega)]
        · rw [if_neg e, if_neg (by omega)]
  refine rb_M_closes_0 (first (s + 1) 0 L _ (by omega) (fun _ _ _ => rfl) (fun k x a b => (hT k x a b).trans ?_))
  show _ = (if _ then _ else _)
  rw [if_neg (by omega)]
end
